/**
 * Promise 9, about: of a COLUMN: 0 its var, 1 the first number of its place (NONE), 2 the second one (NONE),
 * 3 the lower end of its span, 4 the upper one, 5 its VALUE of the POINT. UNKNOWN.
 */
public final class Promise09AboutTest {
    private static final int NONE = ProblemTexts.NONE, UNKNOWN = ProblemTexts.UNKNOWN;
    private static final String TEXT = "set s=2..3;set z=0..0;set e=1..0;var c in 5..5;var n[e] in 0..1;"
            + "var d[s] in -9999..9999;var f[s,z] in -4..-2;var g[z] in 0..7;";
    private static final int[][] WANT = {{0, NONE, NONE, 5, 5, 5}, {2, 2, NONE, -9999, 9999, -9999},
        {2, 3, NONE, -9999, 9999, -9999}, {3, 2, 0, -4, -2, -4}, {3, 3, 0, -4, -2, -4}, {4, 0, NONE, 0, 7, 0}};

    public static void main(String[] args) throws IllegalAccessException {
        Check.run(Promise09AboutTest.class);
    }

    private static void what(Check check, int what) {
        Scene x = Scene.model(TEXT);
        for (int column = 0; column < WANT.length; column++) {
            check.answers(x, WANT[column][what], "about", column, what);
        }
    }

    static void what0IsItsVar(Check check) {
        what(check, 0);
    }

    static void what1IsTheFirstNumberOrNone(Check check) {
        what(check, 1);
    }

    static void what2IsTheSecondNumberOrNone(Check check) {
        what(check, 2);
    }

    static void what3IsTheLowerEnd(Check check) {
        what(check, 3);
    }

    static void what4IsTheUpperEnd(Check check) {
        what(check, 4);
    }

    static void what5IsTheValueOfThePoint(Check check) {
        what(check, 5);
        Scene x = Scene.model(TEXT).and("put", 1, 9999).and("put", 4, -2);
        check.answers(x, 9999, "about", 1, 5);
        check.answers(x, -2, "about", 4, 5);
        check.answers(x, -9999, "about", 2, 5);
        check.answers(x, -4, "about", 3, 5);
        check.answers(x.and("put", 1, 10000), 9999, "about", 1, 5);
    }

    static void whatIs0To5(Check check) {
        for (int what : new int[] {-1, 6, 7, Check.LEAST, Check.MOST}) {
            check.refuses(UNKNOWN, "about", 0, what);
            check.refuses(UNKNOWN, "about", 2, what);
        }
    }

    static void noColumnBesideTheFirstAndTheLast(Check check) {
        Scene x = Scene.model(TEXT);
        for (int column : new int[] {-1, 6, 7, 39, 40, Check.LEAST, Check.MOST}) {
            for (int what = 0; what <= 5; what++) {
                check.refuses(x, UNKNOWN, "about", column, what);
            }
        }
    }

    static void theLastOf40Columns(Check check) {
        Scene x = Scene.model("set s=1..8;set t=1..5;var x[s,t] in 3..4;");
        int[] want = {0, 8, 5, 3, 4, 3};
        for (int what = 0; what <= 5; what++) {
            check.answers(x, want[what], "about", 39, what);
            check.refuses(x, UNKNOWN, "about", 40, what);
        }
    }

    static void aColumnIsFoundAgainByItsPlace(Check check) {
        Scene x = Scene.model("set s=1..3;set t=4..7;var a[t,s] in 0..1;var b in 0..1;var c[t] in 0..1;");
        for (int column = 0; column < 17; column++) {
            check.answers(x, column, "column", x.ask("about", column, 0), x.ask("about", column, 1),
                    x.ask("about", column, 2));
        }
    }
}
