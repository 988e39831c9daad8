/** Promise 13, price: the goal's PRICE of a COLUMN, or that without (NONE). UNKNOWN; STATE: there is no goal. */
public final class Promise13PriceTest {
    private static final int NONE = ProblemTexts.NONE, UNKNOWN = ProblemTexts.UNKNOWN, STATE = ProblemTexts.STATE;

    public static void main(String[] args) throws IllegalAccessException {
        Check.run(Promise13PriceTest.class);
    }

    static void eachColumn(Check check) {
        Scene x = Scene.model("set s=1..3;var y in 0..1;var x[s] in 0..1;goal min 4*x[3]-x[1]+7*y;");
        long[] want = {7, -1, 0, 4};
        for (int column = 0; column < want.length; column++) {
            check.answers(x, want[column], "price", column);
        }
    }

    static void noneIsThatWithout(Check check) {
        check.answers(Scene.standing(), -9, "price", NONE);
        check.answers(Scene.model("var x in 0..1;goal min x;"), 0, "price", NONE);
        check.answers(Scene.model("goal max 5-2;"), 3, "price", NONE);
    }

    static void noColumnBesideTheFirstAndTheLast(Check check) {
        check.answers(Scene.standing(), 1, "price", 0);
        check.answers(Scene.standing(), 0, "price", 1);
        check.answers(Scene.standing(), 2, "price", 2);
        for (int column : new int[] {-2, -3, 3, 4, 39, 40, Check.LEAST, Check.MOST}) {
            check.refuses(UNKNOWN, "price", column);
        }
        check.refuses(Scene.model("goal min 1;"), UNKNOWN, "price", 0);
    }

    static void withoutAGoalItIsState(Check check) {
        Scene x = Scene.model("set s=1..2;var x[s] in 0..1;rule r:x[1]=1;");
        check.refuses(x, STATE, "price", 0);
        check.refuses(x, STATE, "price", 1);
        check.refuses(x, STATE, "price", NONE);
        check.refuses(Scene.fresh(), STATE, "price", NONE);
    }

    static void whenTheGoalHasGoneItIsState(Check check) {
        Scene x = Scene.standing().and("cut", 0).feed("var x in 0..1;").and("read");
        check.refuses(x, STATE, "price", 0);
        check.refuses(x, STATE, "price", NONE);
        check.refuses(x, UNKNOWN, "price", 1);
    }

    static void unknownIsToldAheadOfState(Check check) {
        Scene x = Scene.model("set s=1..2;var x[s] in 0..1;rule r:x[1]=1;");
        for (int column : new int[] {-2, 2, 3, 40, Check.LEAST, Check.MOST}) {
            check.refuses(x, UNKNOWN, "price", column);
        }
        check.refuses(Scene.fresh(), UNKNOWN, "price", 0);
        check.refuses(Scene.fresh(), UNKNOWN, "price", -2);
    }

    static void aGoalOfNothingIsAGoal(Check check) {
        Scene x = Scene.model("set e=1..0;var x in 0..1;goal min sum(i in e:x);");
        check.answers(x, 0, "price", 0);
        check.answers(x, 0, "price", NONE);
    }

    static void theLastOf40Columns(Check check) {
        Scene x = Scene.model("set s=1..8;set t=1..5;var x[s,t] in 0..1;goal max sum(i in s,j in t:(10*i+j)*x[i,j]);");
        check.answers(x, 11, "price", 0);
        check.answers(x, 85, "price", 39);
        check.refuses(x, UNKNOWN, "price", 40);
    }

    static void theLeastAndTheGreatestLong(Check check) {
        Scene x = Scene.model("var x in 0..1;goal min " + Check.LEAST_LONG + "*x+" + Check.LEAST_LONG + "-1;");
        check.answers(x, Long.MIN_VALUE, "price", 0);
        check.answers(x, Long.MAX_VALUE, "price", NONE);
    }

    static void aPriceThatLooksLikeARefusal(Check check) {
        Scene x = Scene.model("var x in 0..1;goal min -x*1000*100-3*x-1000*100-1;");
        check.answers(x, -100003, "price", 0);
        check.answers(x, -100001, "price", NONE);
    }
}
