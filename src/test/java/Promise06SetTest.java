/** Promise 6, set: of set k: how many numbers (what = 0), its first NUMBER (1). UNKNOWN. */
public final class Promise06SetTest {
    private static final int UNKNOWN = ProblemTexts.UNKNOWN;

    public static void main(String[] args) throws IllegalAccessException {
        Check.run(Promise06SetTest.class);
    }

    private static void set(Check check, String span, int many, int first) {
        Scene x = Scene.model("set s=" + span + ";");
        check.answers(x, many, "set", 0, 0);
        check.answers(x, first, "set", 0, 1);
    }

    static void howManyFromNoneTo8(Check check) {
        set(check, "1..0", 0, 1);
        set(check, "9999..9998", 0, 9999);
        set(check, "0..0", 1, 0);
        set(check, "1..2", 2, 1);
        set(check, "0..7", 8, 0);
        set(check, "9992..9999", 8, 9992);
    }

    static void theFirstNumberFrom0To9999(Check check) {
        set(check, "0..3", 4, 0);
        set(check, "0000..0003", 4, 0);
        set(check, "0010..11", 2, 10);
        set(check, "9999..9999", 1, 9999);
    }

    static void whatIs0Or1(Check check) {
        for (int what : new int[] {-1, 2, 3, Check.LEAST, Check.MOST}) {
            check.refuses(UNKNOWN, "set", 0, what);
        }
    }

    static void noSetBesideTheFirstAndTheLast(Check check) {
        Scene x = Scene.model("set a=1..2;set b=3..5;set c=6..9;");
        check.answers(x, 2, "set", 0, 0);
        check.answers(x, 4, "set", 2, 0);
        check.answers(x, 6, "set", 2, 1);
        for (int k : new int[] {-1, 3, 5, 6, Check.LEAST, Check.MOST}) {
            check.refuses(x, UNKNOWN, "set", k, 0);
            check.refuses(x, UNKNOWN, "set", k, 1);
        }
    }

    static void theSixthSet(Check check) {
        Scene x = Scene.model("set a=1..0;set b=1..0;set c=1..0;set d=1..0;set e=1..0;set f=7..9;");
        check.answers(x, 3, "set", 5, 0);
        check.answers(x, 7, "set", 5, 1);
        check.refuses(x, UNKNOWN, "set", 6, 0);
        check.refuses(x, UNKNOWN, "set", 6, 1);
    }

    static void withoutSets(Check check) {
        check.refuses(Scene.model("data d=1;var x in 0..1;rule r:1=1;"), UNKNOWN, "set", 0, 0);
        check.refuses(Scene.model("data d=1;var x in 0..1;rule r:1=1;"), UNKNOWN, "set", 0, 1);
    }
}
