/** Promise 17, holds: whether left() is as REL says to RIGHT: 1, 0. UNKNOWN. */
public final class Promise17HoldsTest {
    private static final int UNKNOWN = ProblemTexts.UNKNOWN;

    public static void main(String[] args) throws IllegalAccessException {
        Check.run(Promise17HoldsTest.class);
    }

    /** Whether it holds with x one below RIGHT, at it, and one above. */
    private static void rel(Check check, String rel, int below, int at, int above) {
        for (int right : new int[] {-3, 0, 3}) {
            Scene x = Scene.model("var x in -9..9;rule r:x" + rel + right + ";");
            check.answers(x.and("put", 0, right - 1), below, "holds", 0);
            check.answers(x.and("put", 0, right), at, "holds", 0);
            check.answers(x.and("put", 0, right + 1), above, "holds", 0);
        }
    }

    static void atMost(Check check) {
        rel(check, "<=", 1, 1, 0);
    }

    static void isThat(Check check) {
        rel(check, "=", 0, 1, 0);
    }

    static void atLeast(Check check) {
        rel(check, ">=", 0, 1, 1);
    }

    static void withoutVars(Check check) {
        String[] texts = {"1<=2", "2<=2", "3<=2", "1=2", "2=2", "1>=2", "2>=2", "3>=2"};
        int[] want = {1, 1, 0, 0, 1, 0, 1, 1};
        for (int i = 0; i < texts.length; i++) {
            check.answers(Scene.model("rule r:" + texts[i] + ";"), want[i], "holds", 0);
        }
    }

    static void noRowBesideTheFirstAndTheLast(Check check) {
        check.answers(Scene.standing(), 0, "holds", 0);
        check.answers(Scene.standing(), 0, "holds", 1);
        check.answers(Scene.standing(), 0, "holds", 2);
        check.answers(Scene.standing().and("put", 0, 1), 1, "holds", 2);
        for (int row : new int[] {-1, 3, 4, 39, 40, Check.LEAST, Check.MOST}) {
            check.refuses(UNKNOWN, "holds", row);
        }
    }

    static void theLastOf40Rows(Check check) {
        Scene x = Scene.model("set s=1..8;set t=1..5;rule r for i in s,j in t:10*i+j<=84;");
        check.answers(x, 1, "holds", 0);
        check.answers(x, 1, "holds", 38);
        check.answers(x, 0, "holds", 39);
        check.refuses(x, UNKNOWN, "holds", 40);
    }

    /** Not whether their difference is below 0, which runs over. */
    static void farApart(Check check) {
        Scene x = Scene.model("var x in 0..9;rule a:x*(" + Check.LEAST_LONG + "-1)>=-9;rule b:x*" + Check.LEAST_LONG
                + "<=9;rule d:x*(" + Check.LEAST_LONG + "-1)<=-9;rule e:x*" + Check.LEAST_LONG + ">=9;").and("put", 0, 1);
        check.answers(x, 1, "holds", 0);
        check.answers(x, 1, "holds", 1);
        check.answers(x, 0, "holds", 2);
        check.answers(x, 0, "holds", 3);
    }

    static void whatHasRunOver(Check check) {
        Scene x = Scene.model("var x in 0..9;rule r:4*x" + "*8".repeat(20) + ">=0;rule q:x*" + Check.LEAST_LONG + "<=-1;");
        check.answers(x.and("put", 0, 1), 1, "holds", 0);
        check.answers(x.and("put", 0, 1), 1, "holds", 1);
        check.answers(x.and("put", 0, 2), 0, "holds", 0);
        check.answers(x.and("put", 0, 2), 0, "holds", 1);
        check.answers(x.and("put", 0, 4), 1, "holds", 0);
    }
}
