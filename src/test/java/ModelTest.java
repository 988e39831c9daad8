/** Promises 4 to 14: what a read text answers. */
public final class ModelTest {
    private static final int NONE = ProblemTexts.NONE, UNKNOWN = ProblemTexts.UNKNOWN, STATE = ProblemTexts.STATE;
    private static final int LEAST = Integer.MIN_VALUE, MOST = Integer.MAX_VALUE;
    private static final String TEXT = "set s=2..4;set tt=0..1;data c=-7;data d[s]=1 -2 3;data ef[s,tt]=1 2 3 4 5 6;"
            + "var x[s,tt] in -3..9;var yabc in 5..5;var z[tt] in 0..9999;"
            + "rule r for i in s,j in tt:x[i,j]<=d[i];rule qq:yabc=c;rule abcd for k in tt:z[k]*ef[3,k]>=k;"
            + "goal min sum(i in s:d[i]*x[i,1])-c*yabc+9;";

    public static void main(String[] args) {
        Check check = new Check();
        ProblemTexts x = Check.model(TEXT);
        names(check, x);
        sets(check, x);
        data(check, x);
        columns(check, x);
        about(check, x);
        rows(check, x);
        factors(check, x);
        prices(check, x);
        counts(check);
        sides(check);
        runningOver(check);
        aSecondText(check);
        check.end();
    }

    private static void names(Check check, ProblemTexts x) {
        String[][] all = {{"s", "tt"}, {"c", "d", "ef"}, {"x", "yabc", "z"}, {"r", "qq", "abcd"}};
        for (int sort = 0; sort < 4; sort++) {
            for (int k = 0; k < all[sort].length; k++) {
                check.due("name(" + sort + ", " + k + ")", Check.name(x, sort, k), all[sort][k]);
                check.due("name(" + sort + ", " + k + ", -1)", x.name(sort, k, -1), UNKNOWN);
                check.due("name(" + sort + ", " + k + ", 4)", x.name(sort, k, 4), UNKNOWN);
                check.due("name(.., least)", x.name(sort, k, LEAST), UNKNOWN);
                check.due("name(.., most)", x.name(sort, k, MOST), UNKNOWN);
            }
            check.due("name of no thing", x.name(sort, all[sort].length, 0), UNKNOWN);
            check.due("name of thing -1", x.name(sort, -1, 0), UNKNOWN);
        }
        check.due("name(-1, 0, 0)", x.name(-1, 0, 0), UNKNOWN);
        check.due("name(4, 0, 0)", x.name(4, 0, 0), UNKNOWN);
        check.due("name(3, 2, 3)", x.name(3, 2, 3), 'd');
    }

    private static void sets(Check check, ProblemTexts x) {
        check.due("set(0, 0)", x.set(0, 0), 3);
        check.due("set(0, 1)", x.set(0, 1), 2);
        check.due("set(1, 0)", x.set(1, 0), 2);
        check.due("set(1, 1)", x.set(1, 1), 0);
        check.due("set(2, 0)", x.set(2, 0), UNKNOWN);
        check.due("set(-1, 0)", x.set(-1, 0), UNKNOWN);
        check.due("set(0, 2)", x.set(0, 2), UNKNOWN);
        check.due("set(0, -1)", x.set(0, -1), UNKNOWN);
    }

    private static void data(Check check, ProblemTexts x) {
        check.due("data(0, any, any)", x.data(0, LEAST, MOST), -7);
        check.due("data(1, 2, any)", x.data(1, 2, LEAST), 1);
        check.due("data(1, 3, any)", x.data(1, 3, MOST), -2);
        check.due("data(1, 4, any)", x.data(1, 4, -1), 3);
        check.due("data(1, 1, 0)", x.data(1, 1, 0), UNKNOWN);
        check.due("data(1, 5, 0)", x.data(1, 5, 0), UNKNOWN);
        check.due("data(1, least, 0)", x.data(1, LEAST, 0), UNKNOWN);
        check.due("data(1, most, 0)", x.data(1, MOST, 0), UNKNOWN);
        for (int i = 2; i <= 4; i++) {
            for (int j = 0; j <= 1; j++) {
                check.due("data(2, " + i + ", " + j + ")", x.data(2, i, j), 1 + 2 * (i - 2) + j);
            }
            check.due("data(2, " + i + ", 2)", x.data(2, i, 2), UNKNOWN);
            check.due("data(2, " + i + ", -1)", x.data(2, i, -1), UNKNOWN);
        }
        check.due("data(3, 0, 0)", x.data(3, 0, 0), UNKNOWN);
        check.due("data(-1, 0, 0)", x.data(-1, 0, 0), UNKNOWN);
    }

    private static void columns(Check check, ProblemTexts x) {
        for (int i = 2; i <= 4; i++) {
            for (int j = 0; j <= 1; j++) {
                check.due("column(0, " + i + ", " + j + ")", x.column(0, i, j), 2 * (i - 2) + j);
            }
        }
        check.due("column(0, 1, 0)", x.column(0, 1, 0), UNKNOWN);
        check.due("column(0, 5, 0)", x.column(0, 5, 0), UNKNOWN);
        check.due("column(0, 2, 2)", x.column(0, 2, 2), UNKNOWN);
        check.due("column(0, 2, -1)", x.column(0, 2, -1), UNKNOWN);
        check.due("column(1, any, any)", x.column(1, LEAST, MOST), 6);
        check.due("column(2, 0, any)", x.column(2, 0, MOST), 7);
        check.due("column(2, 1, any)", x.column(2, 1, LEAST), 8);
        check.due("column(2, 2, 0)", x.column(2, 2, 0), UNKNOWN);
        check.due("column(3, 0, 0)", x.column(3, 0, 0), UNKNOWN);
        check.due("column(-1, 0, 0)", x.column(-1, 0, 0), UNKNOWN);
    }

    private static void about(Check check, ProblemTexts x) {
        int[][] all = {{0, 2, 0, -3, 9, -3}, {0, 2, 1, -3, 9, -3}, {0, 3, 0, -3, 9, -3}, {0, 3, 1, -3, 9, -3},
            {0, 4, 0, -3, 9, -3}, {0, 4, 1, -3, 9, -3}, {1, NONE, NONE, 5, 5, 5}, {2, 0, NONE, 0, 9999, 0},
            {2, 1, NONE, 0, 9999, 0}};
        for (int column = 0; column < all.length; column++) {
            for (int what = 0; what < 6; what++) {
                check.due("about(" + column + ", " + what + ")", x.about(column, what), all[column][what]);
            }
            check.due("about(.., 6)", x.about(column, 6), UNKNOWN);
            check.due("about(.., -1)", x.about(column, -1), UNKNOWN);
        }
        check.due("about(9, 0)", x.about(9, 0), UNKNOWN);
        check.due("about(-1, 0)", x.about(-1, 0), UNKNOWN);
        check.due("about(most, 0)", x.about(MOST, 0), UNKNOWN);
    }

    private static void rows(Check check, ProblemTexts x) {
        int[][] all = {{0, 2, 0, -1}, {0, 2, 1, -1}, {0, 3, 0, -1}, {0, 3, 1, -1}, {0, 4, 0, -1}, {0, 4, 1, -1},
            {1, NONE, NONE, 0}, {2, 0, NONE, 1}, {2, 1, NONE, 1}};
        for (int row = 0; row < all.length; row++) {
            for (int what = 0; what < 4; what++) {
                check.due("row(" + row + ", " + what + ")", x.row(row, what), all[row][what]);
            }
            check.due("row(.., 4)", x.row(row, 4), UNKNOWN);
            check.due("row(.., -1)", x.row(row, -1), UNKNOWN);
        }
        check.due("row(9, 0)", x.row(9, 0), UNKNOWN);
        check.due("row(-1, 0)", x.row(-1, 0), UNKNOWN);
    }

    private static void factors(Check check, ProblemTexts x) {
        long[] rights = {1, 1, -2, -2, 3, 3, -7, 0, 1};
        for (int row = 0; row < 9; row++) {
            for (int column = 0; column < 9; column++) {
                // ef[3, k] is 3 and 4
                long want = row != column ? 0 : row < 7 ? 1 : row - 4;
                check.due("factor(" + row + ", " + column + ")", x.factor(row, column), want);
            }
            check.due("right(" + row + ")", x.right(row), rights[row]);
            check.due("factor(.., 9)", x.factor(row, 9), UNKNOWN);
            check.due("factor(.., -1)", x.factor(row, -1), UNKNOWN);
        }
        check.due("factor(9, 0)", x.factor(9, 0), UNKNOWN);
        check.due("factor(-1, 0)", x.factor(-1, 0), UNKNOWN);
        check.due("right(9)", x.right(9), UNKNOWN);
        check.due("right(-1)", x.right(-1), UNKNOWN);
    }

    private static void prices(Check check, ProblemTexts x) {
        long[] prices = {0, 1, 0, -2, 0, 3, 7, 0, 0};
        for (int column = 0; column < 9; column++) {
            check.due("price(" + column + ")", x.price(column), prices[column]);
        }
        check.due("price(NONE)", x.price(NONE), 9);
        check.due("price(9)", x.price(9), UNKNOWN);
        check.due("price(-2)", x.price(-2), UNKNOWN);
        ProblemTexts without = Check.model("var x in 0..1;");
        check.due("price(0) without a goal", without.price(0), STATE);
        check.due("price(NONE) without a goal", without.price(NONE), STATE);
        check.due("UNKNOWN is ahead of STATE", without.price(1), UNKNOWN);
        check.due("price(-2) without a goal", without.price(-2), UNKNOWN);
    }

    private static void counts(Check check) {
        ProblemTexts x = Check.model(TEXT);
        Check.feed(x, "abc");
        int printed = x.print(6);
        // rows of r: 2 each, of qq: 2, of abcd: 3; the goal: sum 1 + 3 * 2, 2 and 1
        int[] want = {2, 3, 3, 3, 9, 9, 6 * 2 + 2 + 2 * 3 + 7 + 3, 1, 3, printed};
        for (int what = 0; what < want.length; what++) {
            check.due("count(" + what + ")", x.count(what), want[what]);
        }
        check.due("count(10)", x.count(10), UNKNOWN);
        check.due("count(-1)", x.count(-1), UNKNOWN);
        check.due("count(7) of max", Check.model("goal max 1;").count(7), 2);
        check.due("count(7) of none", Check.model("rule r:1=1;").count(7), 0);
    }

    private static void sides(Check check) {
        String v = "set s=1..3;data c[s]=5 6 7;var x[s] in 0..1;var y in 0..1;";
        ProblemTexts x = Check.model(v + "rule a:3+2*x[1]-4<=x[1]*5-y-6;"
                + "rule b:-(x[1]-2*(y-3))*4>=0;rule d:sum(i in s:i*(x[i]+1)*c[i])*2=1;"
                + "rule e for i in s:sum(j in s:(i-j)*x[j])=sum(j in s,k in s:i*j*k*c[j]);rule f:x[2]=x[2];");
        due(check, x, 0, -3, 0, 0, 1, -5);
        due(check, x, 1, -4, 0, 0, 8, 24);
        due(check, x, 2, 10, 24, 42, 0, 1 - 2 * (5 + 12 + 21));
        due(check, x, 3, 0, -1, -2, 0, 6 * (5 + 12 + 21));
        due(check, x, 4, 1, 0, -1, 0, 12 * (5 + 12 + 21));
        due(check, x, 5, 2, 1, 0, 0, 18 * (5 + 12 + 21));
        due(check, x, 6, 0, 0, 0, 0, 0);
        check.due("row(0, 3)", x.row(0, 3), -1);
        check.due("row(1, 3)", x.row(1, 3), 1);
        check.due("row(2, 3)", x.row(2, 3), 0);
    }

    private static void due(Check check, ProblemTexts x, int row, long one, long two, long three, long y, long right) {
        check.due("factor(" + row + ", 0)", x.factor(row, 0), one);
        check.due("factor(" + row + ", 1)", x.factor(row, 1), two);
        check.due("factor(" + row + ", 2)", x.factor(row, 2), three);
        check.due("factor(" + row + ", 3)", x.factor(row, 3), y);
        check.due("right(" + row + ")", x.right(row), right);
    }

    private static void runningOver(Check check) {
        // 8^21 is 2^63, the least long
        String least = "8" + "*8".repeat(20);
        ProblemTexts x = Check.model("var x in 0..9;rule r:x*" + least + "<=" + least + ";rule q:0=-" + least
                + "-1;goal max 9999*9999*9999*9999*9999*x;");
        check.due("the least long", x.factor(0, 0), Long.MIN_VALUE);
        check.due("on the right", x.right(0), Long.MIN_VALUE);
        check.due("less 1 it is the greatest", x.right(1), Long.MAX_VALUE);
        check.due("a price", x.price(0), 9999L * 9999 * 9999 * 9999 * 9999);
        x.put(0, 3);
        check.due("its worth", x.worth(), 9999L * 9999 * 9999 * 9999 * 9999 * 3);
        check.due("left", x.left(0), Long.MIN_VALUE * 3);
    }

    private static void aSecondText(Check check) {
        ProblemTexts x = Check.model(TEXT);
        check.due("read again", Check.read(x, "var a in 1..2;rule b:a=2;"), 1);
        check.due("name of the var", Check.name(x, 2, 0), "a");
        check.due("name of a var that has gone", x.name(2, 1, 0), UNKNOWN);
        check.due("factor(0, 0)", x.factor(0, 0), 1);
        check.due("factor(0, 1)", x.factor(0, 1), UNKNOWN);
        check.due("about(0, 5)", x.about(0, 5), 1);
        check.due("data(0, 0, 0)", x.data(0, 0, 0), UNKNOWN);
        check.due("price(0)", x.price(0), STATE);
        check.due("read of TEXT anew", Check.read(x, TEXT), 9);
        check.due("the state is that of a new object", Check.state(x), Check.state(Check.model(TEXT)));
    }
}
