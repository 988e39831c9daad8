/** Promise 7, data: data k at a place of its OF (of a set that it has not, any). UNKNOWN. */
public final class Promise07DataTest {
    private static final int UNKNOWN = ProblemTexts.UNKNOWN;
    private static final int[] ANY = {Check.LEAST, -100001, -1, 0, 1, 5, 9999, Check.MOST};
    private static final String TEXT = "set s=2..4;set t=0..1;set e=1..0;data c=-7;data d[s]=1 -2 3;"
            + "data f[s,t]=10 11 20 21 30 31;data g[e]=;data h[t,s]=1 2 3 4 5 6;data k[s,e]=;";

    public static void main(String[] args) throws IllegalAccessException {
        Check.run(Promise07DataTest.class);
    }

    static void withoutAnOfAnyPlaceIsTaken(Check check) {
        Scene x = Scene.model(TEXT);
        for (int i : ANY) {
            for (int j : ANY) {
                check.answers(x, -7, "data", 0, i, j);
            }
        }
    }

    static void ofOneSetAnySecondIsTaken(Check check) {
        Scene x = Scene.model(TEXT);
        for (int j : ANY) {
            check.answers(x, 1, "data", 1, 2, j);
            check.answers(x, -2, "data", 1, 3, j);
            check.answers(x, 3, "data", 1, 4, j);
        }
    }

    static void ofOneSetTheFirstIsInIt(Check check) {
        Scene x = Scene.model(TEXT);
        for (int i : new int[] {1, 5, 0, -1, Check.LEAST, Check.MOST}) {
            check.refuses(x, UNKNOWN, "data", 1, i, 0);
            check.refuses(x, UNKNOWN, "data", 1, i, 3);
        }
    }

    static void ofTwoSetsTheFirstIsOutermost(Check check) {
        Scene x = Scene.model(TEXT);
        for (int i = 2; i <= 4; i++) {
            for (int j = 0; j <= 1; j++) {
                check.answers(x, 10 * (i - 1) + j, "data", 2, i, j);
                check.answers(x, 1 + 3 * j + i - 2, "data", 4, j, i);
            }
        }
    }

    static void ofTwoSetsBothAreInThem(Check check) {
        Scene x = Scene.model(TEXT);
        for (int i : new int[] {1, 5, -1, Check.LEAST, Check.MOST}) {
            check.refuses(x, UNKNOWN, "data", 2, i, 0);
            check.refuses(x, UNKNOWN, "data", 2, i, 1);
            check.refuses(x, UNKNOWN, "data", 4, 0, i);
        }
        for (int j : new int[] {-1, 2, Check.LEAST, Check.MOST}) {
            check.refuses(x, UNKNOWN, "data", 2, 2, j);
            check.refuses(x, UNKNOWN, "data", 2, 4, j);
            check.refuses(x, UNKNOWN, "data", 4, j, 2);
            check.refuses(x, UNKNOWN, "data", 2, 5, j);
        }
    }

    static void ofAnEmptySetThereIsNone(Check check) {
        Scene x = Scene.model(TEXT);
        for (int i : new int[] {0, 1, 2, -1}) {
            check.refuses(x, UNKNOWN, "data", 3, i, 0);
            check.refuses(x, UNKNOWN, "data", 5, 2, i);
            check.refuses(x, UNKNOWN, "data", 5, i, 1);
        }
    }

    static void noDataBesideTheFirstAndTheLast(Check check) {
        Scene x = Scene.model(TEXT);
        check.answers(x, -7, "data", 0, 0, 0);
        for (int k : new int[] {-1, 6, 7, Check.LEAST, Check.MOST}) {
            check.refuses(x, UNKNOWN, "data", k, 2, 0);
        }
        for (int k : new int[] {-1, 1, 2, 5, 6}) {
            check.refuses(UNKNOWN, "data", k, 1, 1);
        }
    }

    static void valuesFromMinus9999To9999(Check check) {
        Scene x = Scene.model("set s=1..5;data d[s]=-9999 9999-0 0-1;");
        int[] want = {-9999, 9999, 0, 0, -1};
        for (int i = 0; i < 5; i++) {
            check.answers(x, want[i], "data", 0, i + 1, 0);
        }
    }

    static void theLastOf64Values(Check check) {
        StringBuilder text = new StringBuilder("set s=0..7;data d[s,s]=");
        for (int i = 0; i < 64; i++) {
            text.append(i).append(' ');
        }
        Scene x = Scene.model(text + ";data l=77;");
        for (int i = 0; i < 64; i++) {
            check.answers(x, i, "data", 0, i / 8, i % 8);
        }
        check.answers(x, 77, "data", 1, 0, 0);
        check.refuses(x, UNKNOWN, "data", 0, 8, 0);
        check.refuses(x, UNKNOWN, "data", 0, 7, 8);
    }
}
