/** Promise 1, a new object: THE TEXT, OUT are empty; THE MODEL has nothing. */
public final class Promise01NewObjectTest {
    private static final int NONE = ProblemTexts.NONE, UNKNOWN = ProblemTexts.UNKNOWN;
    private static final int OUTSIDE = ProblemTexts.OUTSIDE, STATE = ProblemTexts.STATE;

    public static void main(String[] args) throws IllegalAccessException {
        Check.run(Promise01NewObjectTest.class);
    }

    static void theTextIsEmpty(Check check) {
        Scene x = Scene.fresh();
        check.answers(x, 0, "count", 8);
        check.answers(x, 0, "cut", 0);
        check.refuses(x, OUTSIDE, "cut", 1);
        check.answers(x, 0, "read");
        check.answers(x, 1, "feed", 1, '@');
        check.answers(x.feed("@"), -10, "read");
        check.answers(x.feed(" @"), -11, "read");
    }

    static void outIsEmpty(Check check) {
        Scene x = Scene.fresh();
        check.answers(x, 0, "count", 9);
        check.refuses(x, NONE, "out", 0);
        check.refuses(x, NONE, "out", -1);
    }

    static void theModelCountsNothing(Check check) {
        for (int what = 0; what <= 9; what++) {
            check.answers(Scene.fresh(), 0, "count", what);
        }
    }

    static void theModelHasNoThings(Check check) {
        Scene x = Scene.fresh();
        for (int sort = 0; sort <= 3; sort++) {
            check.refuses(x, UNKNOWN, "name", sort, 0, 0);
        }
        check.refuses(x, UNKNOWN, "set", 0, 0);
        check.refuses(x, UNKNOWN, "set", 0, 1);
        check.refuses(x, UNKNOWN, "data", 0, 0, 0);
        check.refuses(x, UNKNOWN, "column", 0, 0, 0);
    }

    static void theModelHasNoColumns(Check check) {
        Scene x = Scene.fresh();
        for (int what = 0; what <= 5; what++) {
            check.refuses(x, UNKNOWN, "about", 0, what);
        }
        check.refuses(x, UNKNOWN, "price", 0);
        check.refuses(x, UNKNOWN, "put", 0, 0);
    }

    static void theModelHasNoRows(Check check) {
        Scene x = Scene.fresh();
        for (int what = 0; what <= 3; what++) {
            check.refuses(x, UNKNOWN, "row", 0, what);
        }
        check.refuses(x, UNKNOWN, "factor", 0, 0);
        check.refuses(x, UNKNOWN, "right", 0);
        check.refuses(x, UNKNOWN, "left", 0);
        check.refuses(x, UNKNOWN, "holds", 0);
        check.refuses(x, UNKNOWN, "print", 0);
        check.answers(x, NONE, "broken", 0);
    }

    static void theModelHasNoGoal(Check check) {
        check.refuses(Scene.fresh(), STATE, "price", NONE);
        check.refuses(Scene.fresh(), STATE, "worth");
    }

    static void objectsAreApart(Check check) {
        ProblemTexts one = new ProblemTexts();
        ProblemTexts two = new ProblemTexts();
        one.feed(1, '@');
        check.due("THE TEXT of the other", two.count(8), 0);
        check.due("read() of the other", two.read(), 0);
        check.due("THE TEXT of the first", one.count(8), 1);
        check.due("read() of the first", one.read(), -10);
        for (char c : "rule r:1=1;".toCharArray()) {
            one.feed(1, c);
        }
        check.due("read() of a rule", one.read(), 1);
        check.due("print(0)", one.print(0), 9);
        check.due("ROWS of the other", two.count(5), 0);
        check.due("OUT of the other", two.count(9), 0);
        check.due("ROWS of a later one", new ProblemTexts().count(5), 0);
    }

    static void theConstantsAreAsTold(Check check) {
        check.due("NONE", NONE, -1);
        check.due("UNKNOWN", UNKNOWN, -100001);
        check.due("OUTSIDE", OUTSIDE, -100002);
        check.due("STATE", STATE, -100003);
        check.due("SIZE", ProblemTexts.SIZE, -100004);
    }
}
