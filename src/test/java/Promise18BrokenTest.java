/** Promise 18, broken: the i-th ROW that does not hold; NONE. UNKNOWN: i is below 0. */
public final class Promise18BrokenTest {
    private static final int NONE = ProblemTexts.NONE, UNKNOWN = ProblemTexts.UNKNOWN;
    private static final String TEXT = "var x in 0..3;rule a:1=1;rule b:x<=1;rule c:x=0;rule d:0>=1;rule e:x>=2;";

    public static void main(String[] args) throws IllegalAccessException {
        Check.run(Promise18BrokenTest.class);
    }

    private static void broken(Check check, int value, int... want) {
        Scene x = Scene.model(TEXT).and("put", 0, value);
        for (int i = 0; i < want.length; i++) {
            check.answers(x, want[i], "broken", i);
        }
        for (int i : new int[] {want.length, want.length + 1, 40, Check.MOST}) {
            check.refuses(x, NONE, "broken", i);
        }
    }

    static void theOnesThatDoNotHoldInOrder(Check check) {
        broken(check, 0, 3, 4);
        broken(check, 1, 2, 3, 4);
        broken(check, 2, 1, 2, 3);
    }

    static void noneWhenAllHold(Check check) {
        Scene x = Scene.model("rule a:1=1;rule b:1<=2;");
        check.refuses(x, NONE, "broken", 0);
        check.refuses(x, NONE, "broken", 1);
    }

    static void noneWithoutRows(Check check) {
        check.refuses(Scene.fresh(), NONE, "broken", 0);
        check.refuses(Scene.model("var x in 0..1;"), NONE, "broken", 0);
        check.refuses(Scene.model("var x in 0..1;"), NONE, "broken", Check.MOST);
    }

    static void below0ItIsUnknown(Check check) {
        for (int i : new int[] {-1, -2, Check.LEAST}) {
            check.refuses(UNKNOWN, "broken", i);
            check.refuses(Scene.fresh(), UNKNOWN, "broken", i);
            check.refuses(Scene.model("rule a:1=1;"), UNKNOWN, "broken", i);
        }
    }

    static void allOf40Rows(Check check) {
        Scene x = Scene.model("set s=1..8;set t=1..5;rule r for i in s,j in t:i+j=0;");
        check.answers(x, 0, "broken", 0);
        check.answers(x, 38, "broken", 38);
        check.answers(x, 39, "broken", 39);
        check.refuses(x, NONE, "broken", 40);
    }

    static void theLastOf40RowsAlone(Check check) {
        Scene x = Scene.model("set s=1..8;set t=1..5;rule r for i in s,j in t:i*j<=39;");
        check.answers(x, 39, "broken", 0);
        check.refuses(x, NONE, "broken", 1);
    }
}
