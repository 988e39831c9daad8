/** Promise 12, right: RIGHT. UNKNOWN. */
public final class Promise12RightTest {
    private static final int UNKNOWN = ProblemTexts.UNKNOWN;

    public static void main(String[] args) throws IllegalAccessException {
        Check.run(Promise12RightTest.class);
    }

    static void eachRow(Check check) {
        Scene x = Scene.model("set s=1..3;var x in 0..1;rule r for i in s:x-1<=i*i;rule q:3>=x;rule p:x=0;");
        long[] want = {2, 5, 10, -3, 0};
        for (int row = 0; row < want.length; row++) {
            check.answers(x, want[row], "right", row);
        }
    }

    static void noRowBesideTheFirstAndTheLast(Check check) {
        check.answers(Scene.standing(), 3, "right", 0);
        check.answers(Scene.standing(), 2, "right", 2);
        for (int row : new int[] {-1, 3, 4, 39, 40, Check.LEAST, Check.MOST}) {
            check.refuses(UNKNOWN, "right", row);
        }
        check.refuses(Scene.model("var x in 0..1;goal min x;"), UNKNOWN, "right", 0);
    }

    static void theLastOf40Rows(Check check) {
        Scene x = Scene.model("set s=1..8;set t=1..5;rule r for i in s,j in t:0=10*i+j;");
        check.answers(x, 11, "right", 0);
        check.answers(x, 85, "right", 39);
        check.refuses(x, UNKNOWN, "right", 40);
    }

    static void theLeastAndTheGreatestLong(Check check) {
        Scene x = Scene.model("rule a:0=" + Check.LEAST_LONG + ";rule b:" + Check.LEAST_LONG + "=0;rule c:0="
                + Check.LEAST_LONG + "-1;rule d:" + Check.LEAST_LONG + "-1=1;rule e:" + Check.LEAST_LONG + "-1=2;");
        check.answers(x, Long.MIN_VALUE, "right", 0);
        check.answers(x, Long.MIN_VALUE, "right", 1);
        check.answers(x, Long.MAX_VALUE, "right", 2);
        check.answers(x, Long.MIN_VALUE + 2, "right", 3);
        check.answers(x, Long.MIN_VALUE + 3, "right", 4);
    }

    static void aRightThatLooksLikeARefusal(Check check) {
        check.answers(Scene.model("rule a:1000*100+1=0;"), -100001, "right", 0);
        check.answers(Scene.model("rule a:1=0;"), -1, "right", 0);
    }
}
