/**
 * Promise 10, row: of a ROW: 0 its rule, 1 its first index's number (NONE), 2 its second one's (NONE),
 * 3 REL: -1 <=, 0 =, 1 >=. UNKNOWN.
 */
public final class Promise10RowTest {
    private static final int NONE = ProblemTexts.NONE, UNKNOWN = ProblemTexts.UNKNOWN;
    private static final String TEXT = "set s=2..3;set z=0..0;set e=1..0;rule c:1=1;rule n for i in e:1=1;"
            + "rule d for i in s:i<=1;rule f for i in s,j in z:i>=j;rule g for i in z:i=1;";
    private static final int[][] WANT = {{0, NONE, NONE, 0}, {2, 2, NONE, -1}, {2, 3, NONE, -1}, {3, 2, 0, 1},
        {3, 3, 0, 1}, {4, 0, NONE, 0}};

    public static void main(String[] args) throws IllegalAccessException {
        Check.run(Promise10RowTest.class);
    }

    private static void what(Check check, int what) {
        Scene x = Scene.model(TEXT);
        for (int row = 0; row < WANT.length; row++) {
            check.answers(x, WANT[row][what], "row", row, what);
        }
    }

    static void what0IsItsRule(Check check) {
        what(check, 0);
    }

    static void what1IsTheFirstIndexsNumberOrNone(Check check) {
        what(check, 1);
    }

    static void what2IsTheSecondIndexsNumberOrNone(Check check) {
        what(check, 2);
    }

    static void what3IsRel(Check check) {
        what(check, 3);
    }

    static void whatIs0To3(Check check) {
        for (int what : new int[] {-1, 4, 5, Check.LEAST, Check.MOST}) {
            check.refuses(UNKNOWN, "row", 0, what);
            check.refuses(UNKNOWN, "row", 2, what);
        }
    }

    static void noRowBesideTheFirstAndTheLast(Check check) {
        Scene x = Scene.model(TEXT);
        for (int row : new int[] {-1, 6, 7, 39, 40, Check.LEAST, Check.MOST}) {
            for (int what = 0; what <= 3; what++) {
                check.refuses(x, UNKNOWN, "row", row, what);
            }
        }
    }

    static void theLastOf40Rows(Check check) {
        Scene x = Scene.model("set s=1..8;set t=1..5;rule r for i in s,j in t:i>=j;");
        int[] want = {0, 8, 5, 1};
        for (int what = 0; what <= 3; what++) {
            check.answers(x, want[what], "row", 39, what);
            check.refuses(x, UNKNOWN, "row", 40, what);
        }
    }

    static void theTenthRule(Check check) {
        Scene x = Scene.model("rule a:1=1;rule b:1=1;rule c:1=1;rule d:1=1;rule e:1=1;rule f:1=1;rule g:1=1;"
                + "rule h:1=1;rule i:1=1;rule j:1<=1;");
        check.answers(x, 9, "row", 9, 0);
        check.answers(x, -1, "row", 9, 3);
        check.refuses(x, UNKNOWN, "row", 10, 0);
    }
}
