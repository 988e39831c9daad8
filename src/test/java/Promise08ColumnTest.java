/** Promise 8, column: the COLUMN of var k at a place (likewise). UNKNOWN. */
public final class Promise08ColumnTest {
    private static final int UNKNOWN = ProblemTexts.UNKNOWN;
    private static final int[] ANY = {Check.LEAST, -100001, -1, 0, 1, 5, 9999, Check.MOST};
    private static final String TEXT = "set s=2..4;set t=0..1;set e=1..0;var c in 0..1;var d[s] in 0..1;"
            + "var f[s,t] in 0..1;var g[e] in 0..1;var h[t,s] in 0..1;var k[s,e] in 0..1;";

    public static void main(String[] args) throws IllegalAccessException {
        Check.run(Promise08ColumnTest.class);
    }

    static void withoutAnOfAnyPlaceIsTaken(Check check) {
        Scene x = Scene.model(TEXT);
        for (int i : ANY) {
            for (int j : ANY) {
                check.answers(x, 0, "column", 0, i, j);
            }
        }
    }

    static void ofOneSetAnySecondIsTaken(Check check) {
        Scene x = Scene.model(TEXT);
        for (int j : ANY) {
            for (int i = 2; i <= 4; i++) {
                check.answers(x, 1 + i - 2, "column", 1, i, j);
            }
        }
    }

    static void ofOneSetTheFirstIsInIt(Check check) {
        Scene x = Scene.model(TEXT);
        for (int i : new int[] {1, 5, 0, -1, Check.LEAST, Check.MOST}) {
            check.refuses(x, UNKNOWN, "column", 1, i, 0);
            check.refuses(x, UNKNOWN, "column", 1, i, 3);
        }
    }

    static void ofTwoSetsTheFirstIsOutermost(Check check) {
        Scene x = Scene.model(TEXT);
        for (int i = 2; i <= 4; i++) {
            for (int j = 0; j <= 1; j++) {
                check.answers(x, 4 + 2 * (i - 2) + j, "column", 2, i, j);
                check.answers(x, 10 + 3 * j + i - 2, "column", 4, j, i);
            }
        }
    }

    static void ofTwoSetsBothAreInThem(Check check) {
        Scene x = Scene.model(TEXT);
        for (int i : new int[] {1, 5, -1, Check.LEAST, Check.MOST}) {
            check.refuses(x, UNKNOWN, "column", 2, i, 0);
            check.refuses(x, UNKNOWN, "column", 4, 0, i);
        }
        for (int j : new int[] {-1, 2, Check.LEAST, Check.MOST}) {
            check.refuses(x, UNKNOWN, "column", 2, 2, j);
            check.refuses(x, UNKNOWN, "column", 2, 4, j);
            check.refuses(x, UNKNOWN, "column", 4, j, 2);
        }
    }

    static void ofAnEmptySetThereIsNone(Check check) {
        Scene x = Scene.model(TEXT);
        for (int i : new int[] {0, 1, 2, -1}) {
            check.refuses(x, UNKNOWN, "column", 3, i, 0);
            check.refuses(x, UNKNOWN, "column", 5, 2, i);
            check.refuses(x, UNKNOWN, "column", 5, i, 1);
        }
    }

    static void noVarBesideTheFirstAndTheLast(Check check) {
        Scene x = Scene.model(TEXT);
        for (int k : new int[] {-1, 6, 7, Check.LEAST, Check.MOST}) {
            check.refuses(x, UNKNOWN, "column", k, 2, 0);
        }
        for (int k : new int[] {-1, 2, 3, 5, 6}) {
            check.refuses(UNKNOWN, "column", k, 1, 1);
        }
    }

    static void theLastOf40Columns(Check check) {
        Scene x = Scene.model("set s=1..8;set t=1..5;var x[s,t] in 0..1;");
        check.answers(x, 0, "column", 0, 1, 1);
        check.answers(x, 4, "column", 0, 1, 5);
        check.answers(x, 5, "column", 0, 2, 1);
        check.answers(x, 39, "column", 0, 8, 5);
        check.refuses(x, UNKNOWN, "column", 0, 8, 6);
        check.refuses(x, UNKNOWN, "column", 0, 9, 1);
        check.refuses(x, UNKNOWN, "column", 0, 9, 5);
        check.refuses(x, UNKNOWN, "column", 0, 1, 0);
    }
}
