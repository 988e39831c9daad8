import java.util.Random;

/** No call throws, for any numbers in any state; and what is refused changes nothing but THE TEXT. */
public final class RandomCallsTest {
    private static final int RUNS = 400;
    private static final String[] CALLS = {"feed", "cut", "read", "name", "set", "data", "column", "about", "row",
        "factor", "right", "price", "count", "put", "left", "holds", "broken", "worth", "print", "out"};
    private static final int[] TAKES = {2, 1, 0, 3, 2, 3, 3, 2, 2, 2, 1, 1, 1, 2, 1, 1, 1, 0, 1, 1};
    private static final int[] EDGES = {Integer.MIN_VALUE, -100001, -2, -1, 0, 1, 2, 3, 4, 5, 6, 7, 8, 9, 10, 39, 40, 41,
        399, 400, 401, 9999, 10000, Integer.MAX_VALUE};
    private static final String[] PIECES = {"set ", "data ", "var ", "rule ", "goal ", "min ", "max ", "sum(", " in ",
        " for ", "a", "b", "s", "x", "abcd", "abcde", "0", "1", "7", "9999", "12345", "=", "<=", ">=", "<", "+", "-",
        "*", "(", ")", "[", "]", ",", ";", ":", "..", ".", " ", "\n", "@", "set s=1..2;", "var x[s] in -1..3;",
        "data c=4;", "rule r for i in s:x[i]<=c;", "goal max sum(i in s:i*x[i]);", "rule q:x[1]-2*x[2]>=c*c;"};

    public static void main(String[] args) throws IllegalAccessException {
        Check.run(RandomCallsTest.class);
    }

    static void refusedCallsChangeNothing(Check check) {
        for (int seed = 0; seed < RUNS; seed++) {
            Random random = new Random(seed);
            Scene x = run(random);
            for (int i = 0; i < 12; i++) {
                Call call = call(random);
                long answer = x.answer(call);
                boolean refused = answer <= ProblemTexts.UNKNOWN && answer >= ProblemTexts.SIZE;
                if (refused && !call.name().equals("read")) {
                    check.refuses(x, answer, call.name(), call.args());
                }
            }
            readChangesTheTextAlone(check, x);
        }
    }

    /** Up to 200 calls, among them texts that are nearly right, and two that are. */
    private static Scene run(Random random) {
        Scene x = Scene.fresh().feed(PIECES[40] + PIECES[41] + PIECES[42] + PIECES[43] + PIECES[44]).and("read");
        for (int i = random.nextInt(60); i >= 0; i--) {
            if (random.nextBoolean()) {
                x = x.feed(PIECES[random.nextInt(PIECES.length)]);
            } else {
                Call call = call(random);
                x = x.and(call.name(), call.args());
            }
        }
        return x;
    }

    private static void readChangesTheTextAlone(Check check, Scene x) {
        long answer = x.answer(new Call("read"));
        check.due("an answer of read", answer >= 0 && answer <= 40 || answer <= -10 && answer >= -410
                || answer == ProblemTexts.SIZE ? 1 : 0, 1);
        if (answer < 0) {
            check.due("everything behind read", x.and("read").everything(), x.and("cut", 0).everything());
        }
    }

    private static Call call(Random random) {
        int which = random.nextInt(CALLS.length);
        long[] args = new long[TAKES[which]];
        for (int i = 0; i < args.length; i++) {
            args[i] = random.nextInt(3) == 0 ? EDGES[random.nextInt(EDGES.length)] : random.nextInt(4);
        }
        if (which == 0) {
            args[1] = random.nextLong();
        }
        return new Call(CALLS[which], args);
    }
}
