/** Promise 15, put: a COLUMN's VALUE of the POINT: what it was. UNKNOWN; OUTSIDE: v is not in its span. */
public final class Promise15PutTest {
    private static final int UNKNOWN = ProblemTexts.UNKNOWN, OUTSIDE = ProblemTexts.OUTSIDE;

    public static void main(String[] args) throws IllegalAccessException {
        Check.run(Promise15PutTest.class);
    }

    static void whatItWas(Check check) {
        Scene x = Scene.model("var x in -2..3;var y in 1..9999;");
        check.answers(x, -2, "put", 0, 3);
        check.answers(x.and("put", 0, 3), 3, "put", 0, 0);
        check.answers(x.and("put", 0, 3).and("put", 0, 0), 0, "put", 0, 0);
        check.answers(x.and("put", 0, 3), 1, "put", 1, 5);
        check.answers(x.and("put", 1, 9999), 9999, "put", 1, 1);
    }

    static void theValueIsPut(Check check) {
        Scene x = Scene.standing().and("put", 1, 5);
        check.answers(x, 5, "about", 1, 5);
        check.answers(x, 4, "about", 0, 5);
        check.answers(x, 3, "about", 2, 5);
        check.answers(x, 5, "left", 1);
    }

    static void bothEndsOfTheSpanAreTaken(Check check) {
        for (int[] span : new int[][] {{-2, 3}, {0, 0}, {-9999, 9999}, {-5, -5}, {9999, 9999}, {1, 2}}) {
            Scene x = Scene.model("var x in " + span[0] + ".." + span[1] + ";rule r:x=0;goal min x;");
            check.answers(x, span[0], "put", 0, span[1]);
            check.answers(x.and("put", 0, span[1]), span[1], "about", 0, 5);
            check.answers(x.and("put", 0, span[1]), span[1], "put", 0, span[0]);
            check.answers(x.and("put", 0, span[1]).and("put", 0, span[0]), span[0], "about", 0, 5);
        }
    }

    static void besideTheEndsItIsOutside(Check check) {
        for (int[] span : new int[][] {{-2, 3}, {0, 0}, {-9999, 9999}, {-5, -5}, {9999, 9999}, {1, 2}}) {
            Scene x = Scene.model("var x in " + span[0] + ".." + span[1] + ";rule r:x=0;goal min x;")
                    .and("put", 0, span[1]);
            for (int v : new int[] {span[0] - 1, span[1] + 1, Check.LEAST, Check.MOST}) {
                check.refuses(x, OUTSIDE, "put", 0, v);
            }
        }
    }

    static void eachColumnHasItsOwnSpan(Check check) {
        check.refuses(OUTSIDE, "put", 0, 6);
        check.refuses(OUTSIDE, "put", 1, -2);
        check.refuses(OUTSIDE, "put", 2, 4);
        check.refuses(OUTSIDE, "put", 2, 1);
        check.answers(Scene.standing(), 4, "put", 0, 1);
        check.answers(Scene.standing(), 3, "put", 2, 2);
    }

    static void noColumnBesideTheFirstAndTheLast(Check check) {
        for (int column : new int[] {-1, 3, 4, 39, 40, Check.LEAST, Check.MOST}) {
            check.refuses(UNKNOWN, "put", column, 2);
        }
        check.refuses(Scene.model("rule r:1=1;"), UNKNOWN, "put", 0, 0);
    }

    static void unknownIsToldAheadOfOutside(Check check) {
        for (int column : new int[] {-1, 3, 40, Check.LEAST, Check.MOST}) {
            check.refuses(UNKNOWN, "put", column, 10000);
            check.refuses(UNKNOWN, "put", column, Check.LEAST);
        }
        check.refuses(Scene.fresh(), UNKNOWN, "put", 0, Check.MOST);
    }

    static void theLastOf40Columns(Check check) {
        Scene x = Scene.model("set s=1..8;set t=1..5;var x[s,t] in 0..4;goal max sum(i in s,j in t:x[i,j]);");
        check.answers(x, 0, "put", 39, 4);
        check.answers(x.and("put", 39, 4), 4, "worth");
        check.answers(x.and("put", 39, 4), 0, "about", 38, 5);
        check.refuses(x, OUTSIDE, "put", 39, 5);
        check.refuses(x, UNKNOWN, "put", 40, 4);
    }
}
