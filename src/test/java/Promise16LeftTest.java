/** Promise 16, left: FACTORS times VALUES, together. UNKNOWN. */
public final class Promise16LeftTest {
    private static final int UNKNOWN = ProblemTexts.UNKNOWN;

    public static void main(String[] args) throws IllegalAccessException {
        Check.run(Promise16LeftTest.class);
    }

    static void factorsTimesValues(Check check) {
        Scene x = Scene.model("var x in -2..3;var y in 1..9999;rule a:2*x-y<=-4;rule b:x=0;rule d:x+y+5>=4+x;");
        check.answers(x, -5, "left", 0);
        check.answers(x, -2, "left", 1);
        check.answers(x, 1, "left", 2);
        Scene moved = x.and("put", 0, 3).and("put", 1, 7);
        check.answers(moved, -1, "left", 0);
        check.answers(moved, 3, "left", 1);
        check.answers(moved, 7, "left", 2);
    }

    static void withoutFactorsItIs0(Check check) {
        check.answers(Scene.model("rule r:3>=2;"), 0, "left", 0);
        check.answers(Scene.model("var x in 5..6;rule r:3>=2;rule q:x=x;"), 0, "left", 0);
        check.answers(Scene.model("var x in 5..6;rule r:3>=2;rule q:x=x;"), 0, "left", 1);
    }

    static void noRowBesideTheFirstAndTheLast(Check check) {
        check.answers(Scene.standing(), 4, "left", 0);
        check.answers(Scene.standing(), -1, "left", 2);
        for (int row : new int[] {-1, 3, 4, 39, 40, Check.LEAST, Check.MOST}) {
            check.refuses(UNKNOWN, "left", row);
        }
    }

    static void theLastOf40RowsAndColumns(Check check) {
        Scene x = Scene.model("set s=1..8;set t=1..5;var x[s,t] in 1..2;rule r for i in s,j in t:"
                + "x[1,1]+x[8,5]+10*x[i,j]=0;");
        check.answers(x, 12, "left", 0);
        check.answers(x, 12, "left", 39);
        check.answers(x.and("put", 39, 2), 13, "left", 0);
        check.answers(x.and("put", 39, 2), 23, "left", 39);
        check.refuses(x, UNKNOWN, "left", 40);
    }

    static void productsRunOver(Check check) {
        // 4 * 8 to the power 20 is 2 to the power 62
        Scene x = Scene.model("var x in -9..9;rule r:4*x" + "*8".repeat(20) + ">=0;rule q:x*" + Check.LEAST_LONG + "=1;");
        check.answers(x.and("put", 0, 1), 1L << 62, "left", 0);
        check.answers(x.and("put", 0, 2), Long.MIN_VALUE, "left", 0);
        check.answers(x.and("put", 0, 3), -(1L << 62), "left", 0);
        check.answers(x.and("put", 0, 4), 0, "left", 0);
        check.answers(x.and("put", 0, -1), Long.MIN_VALUE, "left", 1);
        check.answers(x.and("put", 0, 2), 0, "left", 1);
    }

    static void theirSumRunsOver(Check check) {
        Scene x = Scene.model("var x in 1..1;var y in 0..1;rule r:x*" + Check.LEAST_LONG + "-y=0;rule q:x*("
                + Check.LEAST_LONG + "-1)+y=0;");
        check.answers(x, Long.MIN_VALUE, "left", 0);
        check.answers(x.and("put", 1, 1), Long.MAX_VALUE, "left", 0);
        check.answers(x, Long.MAX_VALUE, "left", 1);
        check.answers(x.and("put", 1, 1), Long.MIN_VALUE, "left", 1);
    }
}
