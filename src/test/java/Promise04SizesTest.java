/** Promise 4, read: the SIZES at their limits, COLUMNS, ROWS, WORK; a FAULT is told ahead of them. */
public final class Promise04SizesTest {
    private static final String S = "set s=1..8;set t=1..5;set e=1..0;";
    /** WORK of 1 + 8 * (1 + 64 * 38) + 1 + 8 * 66 = 19994. */
    private static final String NEARLY = "set s=0..7;goal min sum(i in s:sum(j in s,k in s:1" + "+1".repeat(37)
            + "))+sum(a in s:1" + "+1".repeat(65) + ")";
    private static final int NEARLY_WORK = 1 + 8 * (1 + 64 * 38) + 1 + 8 * 66;

    public static void main(String[] args) throws IllegalAccessException {
        Check.run(Promise04SizesTest.class);
    }

    private static void work(Check check, String text, int want) {
        check.answers(Scene.model(text), want, "count", 6);
    }

    static void columns40AreTakenAnd41AreNot(Check check) {
        check.rows(S + "var x[s,t] in 0..1;", 0);
        check.answers(Scene.model(S + "var x[s,t] in 0..1;"), 40, "count", 4);
        check.size(S + "var x[s,t] in 0..1;var y in 0..1;");
        check.size(S + "var y in 0..1;var x[s,t] in 0..1;");
        check.size(S + "var x[s,s] in 0..1;");
        String five = S + "var a[s] in 0..1;var b[s] in 0..1;var c[s] in 0..1;var d[s] in 0..1;";
        check.rows(five + "var f[s] in 0..1;", 0);
        check.rows(five + "var f[t] in 0..1;var g in 0..1;", 0);
        check.size(five + "var f[s] in 0..1;var g in 0..1;");
    }

    static void columnsOfEmptySetsAreNone(Check check) {
        check.rows(S + "var x[s,t] in 0..1;var a[e] in 0..1;var b[s,e] in 0..1;var c[e,s] in 0..1;", 0);
        check.answers(Scene.model(S + "var a[s,e] in 0..1;"), 0, "count", 4);
    }

    static void columnsOfTheLargestTextAreTooMany(Check check) {
        check.size("set s=1..8;var a[s,s] in 0..1;var b[s,s] in 0..1;var c[s,s] in 0..1;var d[s,s] in 0..1;"
                + "var f[s,s] in 0..1;var g[s,s] in 0..1;");
    }

    static void placesOfDataAreNoColumns(Check check) {
        check.rows(S + "data d[s,s]=" + "1 ".repeat(64) + ";var x[s,t] in 0..1;", 0);
    }

    static void rows40AreTakenAnd41AreNot(Check check) {
        check.rows(S + "rule r for i in s,j in t:i=j;", 40);
        check.size(S + "rule r for i in s,j in t:i=j;rule q:1=1;");
        check.size(S + "rule q:1=1;rule r for i in s,j in t:i=j;");
        check.size(S + "rule r for i in s,j in s:i=j;");
        String four = S + "rule a for i in s:i=1;rule b for i in s:i=1;rule c for i in s:i=1;rule d for i in s:i=1;";
        check.rows(four + "rule f for i in s:i=1;", 40);
        check.rows(four + "rule f for i in t:i=1;rule g:1=1;rule h:1=1;rule k:1=1;", 40);
        check.size(four + "rule f for i in s:i=1;rule g:1=1;");
    }

    static void rowsOfEmptySetsAreNone(Check check) {
        check.rows(S + "rule r for i in s,j in t:i=j;rule a for i in e:1=1;rule b for i in s,j in e:1=1;"
                + "rule c for i in e,j in s:1=1;", 40);
    }

    static void rowsOfTheLargestTextAreTooMany(Check check) {
        StringBuilder text = new StringBuilder(S);
        for (char c = 'a'; c < 'k'; c++) {
            text.append("rule ").append(c == 'e' ? "ee" : c).append(" for x in s,y in s:x=y;");
        }
        check.size(text.toString());
    }

    static void columnsAndRowsOf40Together(Check check) {
        String text = S + "var x[s,t] in 0..1;rule r for i in s,j in t:x[i,j]<=i*j;goal min sum(i in s,j in t:x[i,j]);";
        check.rows(text, 40);
        Scene x = Scene.model(text);
        check.answers(x, 40, "count", 4);
        check.answers(x, 40, "count", 5);
        check.answers(x, 40 * 3 + 41, "count", 6);
        check.answers(x, 1, "factor", 39, 39);
        check.answers(x, 40, "right", 39);
        check.answers(x, 1, "price", 39);
    }

    static void workOfANumberOrAName(Check check) {
        String s = "set s=1..3;data c=1;data d[s,s]=1 2 3 4 5 6 7 8 9;var x in 0..1;var y[s] in 0..1;";
        work(check, s, 0);
        work(check, s + "goal min 9999;", 1);
        work(check, s + "goal min -9999;", 1);
        work(check, s + "goal min c;", 1);
        work(check, s + "goal min d[1,3];", 1);
        work(check, s + "goal min x;", 1);
        work(check, s + "goal min y[2];", 1);
        work(check, s + "goal min c*x+3*d[1,1]-y[1];", 5);
        work(check, s + "goal min sum(i in s:i);", 4);
        work(check, s + "goal min sum(i in s:y[i]);", 4);
        work(check, s + "goal min sum(i in s:d[i,i]);", 4);
    }

    static void workOfBrackets(Check check) {
        work(check, "goal min (1);", 2);
        work(check, "goal min ((1)*2)+3;", 5);
        work(check, "goal min " + "(".repeat(8) + "1" + ")".repeat(8) + ";", 9);
        work(check, "goal min (-1);", 2);
    }

    static void workOfSums(Check check) {
        work(check, S + "goal min sum(i in s:1);", 9);
        work(check, S + "goal min sum(i in s:i+2);", 17);
        work(check, S + "goal min sum(i in s,j in t:i*j*4);", 121);
        work(check, S + "goal min sum(i in e:i);", 1);
        work(check, S + "goal min sum(i in e,j in s:i);", 1);
        work(check, S + "goal min sum(i in s,j in e:i);", 1);
        work(check, S + "goal min sum(i in s:(1)+sum(j in t:2));", 1 + 8 * (2 + 1 + 5));
        work(check, S + "goal min sum(i in s:sum(j in e:2));", 1 + 8);
        work(check, S + "goal min sum(j in e:sum(i in s:2));", 1);
        work(check, "set o=3..3;goal min sum(i in o:1);", 2);
    }

    static void workOfRules(Check check) {
        work(check, S + "rule r:1=1;", 2);
        work(check, S + "rule r:1+2=3*(4);", 5);
        work(check, S + "rule r for i in t:1+2=3*(4);", 25);
        work(check, S + "rule r for i in t,j in s:1+2=3*(4);", 200);
        work(check, S + "rule r for i in t:sum(j in s:1)=i;", 50);
        work(check, S + "rule r for i in e:1+2=3*(4);", 0);
        work(check, S + "rule r for i in e,j in s:1=1;", 0);
        work(check, S + "rule r for i in s,j in e:1=1;", 0);
    }

    static void workOfAllTogether(Check check) {
        work(check, "", 0);
        work(check, "rule r:1=1;rule q:1=(1);goal min 7;", 6);
        work(check, S + "goal min 7;rule r for i in t:1=1;rule q:1=(1);", 14);
        work(check, "set s=1..3;data d[s]=1 2 3;var x[s] in 0..1;", 0);
    }

    static void work20000IsTakenAnd20001IsNot(Check check) {
        work(check, NEARLY + ";", NEARLY_WORK);
        String most = NEARLY + "+1".repeat(20000 - NEARLY_WORK);
        check.rows(most + ";", 0);
        work(check, most + ";", 20000);
        check.size(most + "+1;");
        check.size(most + "*1;");
        check.size(most + "-1;");
    }

    static void workOfRulesAndTheGoalCountsTogether(Check check) {
        int rest = 20000 - NEARLY_WORK;
        check.due("the rest is even", rest % 2, 0);
        String rules = ";rule r:1" + "+1".repeat(rest / 2 - 1) + "=1" + "*1".repeat(rest / 2 - 1);
        work(check, NEARLY + rules + ";", 20000);
        check.size(NEARLY + rules + "+1;");
        work(check, NEARLY.replace("goal min ", "rule r:0<=") + ";", NEARLY_WORK + 1);
        String rule = NEARLY.replace("goal min ", "rule r:0<=") + "+1".repeat(rest - 1);
        work(check, rule + ";", 20000);
        check.size(rule + "+1;");
        check.size(rule + ";goal min 1;");
    }

    static void workThatRunsFarOver(Check check) {
        StringBuilder text = new StringBuilder("set s=0..7;rule r for x in s,y in s:");
        for (char c = 'a'; c < 'q'; c += 2) {
            text.append("sum(").append(c).append(" in s,").append((char) (c + 1)).append(" in s:");
        }
        // 64 to the power 9 is 2 to the power 54, and ROWS are too many as well
        check.size(text + "1))))))))=1;");
        check.size(text + "1" + "+1".repeat(60) + "))))))))=1;");
        // one ROW, and the goal: 2 to the power 48; with four numbers 2 to the power 32, which as an int would be 0
        check.size(text.toString().replace(" for x in s,y in s", "") + "1))))))))=1;");
        check.size(text.toString().replace("rule r for x in s,y in s:", "goal min ") + "1))))))));");
        check.size(text.toString().replace("0..7", "0..3").replace(" for x in s,y in s", "") + "1))))))))=1;");
    }

    static void workWithinAnEmptySetIsNone(Check check) {
        String deep = "sum(a in s,b in s:sum(c in s,d in s:sum(f in s,g in s:sum(h in s,k in s:1))))";
        check.size(S + "goal min " + deep + ";");
        work(check, S + "goal min sum(z in e:" + deep + ");", 1);
        work(check, S + "rule r for z in e:" + deep + "=1;", 0);
        // the outer sums are worked out, though each time for nothing
        work(check, S + "goal min sum(a in s,b in s:sum(c in s:sum(z in e:1)));", 1 + 64 * (1 + 8));
        check.size(S + "goal min sum(a in s,b in s:sum(c in s,d in s:sum(f in s:sum(z in e:1))));");
    }

    static void oneTooLargeIsEnough(Check check) {
        check.size(S + "var x[s,s] in 0..1;");
        check.size(S + "rule r for i in s,j in s:i=j;");
        check.size(S + "var x[s,s] in 0..1;rule r for i in s,j in s:x[i,j]=j;");
    }

    static void aFaultIsToldAheadOfSize(Check check) {
        check.fault(S + "var x[s,s] in 0..1;^x");
        check.fault(S + "rule r for i in s,j in s:i=j;^r");
        check.fault(S + "goal min sum(a in s,b in s:sum(c in s,d in s:1+1+1+1+1));rule q:1^;");
        check.fault(NEARLY + "+1".repeat(20001 - NEARLY_WORK) + "^:");
        check.fault(S + "var x[s,s] in 0..1;var y in 1..^0;");
    }

    static void columnsStandInOrder(Check check) {
        Scene x = Scene.model("set s=3..4;set t=7..9;var a in 0..1;var b[s,t] in 0..1;var c[t] in 0..1;");
        int[][] want = {{0, -1, -1}, {1, 3, 7}, {1, 3, 8}, {1, 3, 9}, {1, 4, 7}, {1, 4, 8}, {1, 4, 9}, {2, 7, -1},
            {2, 8, -1}, {2, 9, -1}};
        check.answers(x, want.length, "count", 4);
        for (int column = 0; column < want.length; column++) {
            for (int what = 0; what < 3; what++) {
                check.answers(x, want[column][what], "about", column, what);
            }
        }
    }

    static void rowsStandInOrder(Check check) {
        Scene x = Scene.model("set s=3..4;set t=7..9;rule a:1=1;rule b for i in s,j in t:i=j;rule c for i in t:i=1;");
        int[][] want = {{0, -1, -1}, {1, 3, 7}, {1, 3, 8}, {1, 3, 9}, {1, 4, 7}, {1, 4, 8}, {1, 4, 9}, {2, 7, -1},
            {2, 8, -1}, {2, 9, -1}};
        check.answers(x, want.length, "count", 5);
        for (int row = 0; row < want.length; row++) {
            for (int what = 0; what < 3; what++) {
                check.answers(x, want[row][what], "row", row, what);
            }
        }
    }

    static void emptyThingsTakeNoPlaceAmongOthers(Check check) {
        Scene x = Scene.model("set e=3..2;set s=0..1;var a[e,s] in 0..1;var b[s] in 2..3;var c[s,e] in 0..1;"
                + "var d in 0..1;rule p for i in e:1=1;rule q for i in s:b[i]=sum(j in e:c[i,j]);"
                + "rule r for i in s,j in e:1=1;rule u:d=0;");
        int[] vars = {1, 1, 3};
        int[] rules = {1, 1, 3};
        check.answers(x, 3, "count", 4);
        check.answers(x, 3, "count", 5);
        for (int i = 0; i < 3; i++) {
            check.answers(x, vars[i], "about", i, 0);
            check.answers(x, rules[i], "row", i, 0);
        }
    }
}
