/** Promise 19, worth: the goal's number at the POINT. STATE: there is no goal. */
public final class Promise19WorthTest {
    private static final int STATE = ProblemTexts.STATE;

    public static void main(String[] args) throws IllegalAccessException {
        Check.run(Promise19WorthTest.class);
    }

    static void pricesTimesValuesAndThatWithout(Check check) {
        for (String goal : new String[] {"min", "max"}) {
            Scene x = Scene.model("var x in -2..3;var y in 1..9999;goal " + goal + " 3*x-y+10;");
            check.answers(x, 3, "worth");
            check.answers(x.and("put", 0, 2), 15, "worth");
            check.answers(x.and("put", 0, 2).and("put", 1, 9999), -9983, "worth");
        }
        check.answers(Scene.standing(), 1, "worth");
    }

    static void ofAGoalWithoutVars(Check check) {
        check.answers(Scene.model("goal max 2-5;"), -3, "worth");
        check.answers(Scene.model("goal min 0;"), 0, "worth");
        check.answers(Scene.model("set e=1..0;var x in 5..5;goal min sum(i in e:x);"), 0, "worth");
    }

    static void withoutAGoalItIsState(Check check) {
        check.refuses(Scene.fresh(), STATE, "worth");
        check.refuses(Scene.model("var x in 1..2;rule r:x=1;"), STATE, "worth");
        check.refuses(Scene.standing().and("cut", 0).feed("var x in 1..2;").and("read"), STATE, "worth");
        check.refuses(Scene.standing().and("cut", 0).and("read"), STATE, "worth");
    }

    static void aRefusedTextsGoalIsNone(Check check) {
        check.refuses(Scene.model("rule r:1=1;").feed("goal min 1;@").and("read"), STATE, "worth");
        check.refuses(Scene.model("rule r:1=1;").feed("set s=1..8;var x[s,s] in 0..1;goal min 1;").and("read"), STATE,
                "worth");
        check.answers(Scene.model("goal min 7;").feed("goal min 1;@").and("read"), 7, "worth");
    }

    static void ofAll40Columns(Check check) {
        Scene x = Scene.model("set s=1..8;set t=1..5;var x[s,t] in 1..2;goal max sum(i in s,j in t:x[i,j]);");
        check.answers(x, 40, "worth");
        check.answers(x.and("put", 39, 2).and("put", 0, 2), 42, "worth");
    }

    static void productsAndTheirSumRunOver(Check check) {
        Scene x = Scene.model("var x in -1..3;var y in 0..1;goal min x*" + Check.LEAST_LONG + "+y+" + Check.LEAST_LONG
                + "-1;");
        check.answers(x.and("put", 0, 0), Long.MAX_VALUE, "worth");
        check.answers(x.and("put", 0, 0).and("put", 1, 1), Long.MIN_VALUE, "worth");
        check.answers(x.and("put", 0, 1), -1, "worth");
        check.answers(x.and("put", 0, -1), -1, "worth");
        check.answers(x.and("put", 0, 2), Long.MAX_VALUE, "worth");
        check.answers(x.and("put", 0, 3).and("put", 1, 1), 0, "worth");
    }

    /** A number that is that of a refusal is told all the same. */
    static void aWorthThatLooksLikeARefusal(Check check) {
        check.answers(Scene.model("goal min -1000*100-3;"), -100003, "worth");
        check.answers(Scene.model("goal min -1;"), -1, "worth");
    }
}
