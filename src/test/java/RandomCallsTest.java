import java.util.Random;

/** No call throws, for any arguments in any state; and what is refused changes nothing. */
public final class RandomCallsTest {
    private static final int RUNS = 300, CALLS = 512;
    private static final int[] EDGES = {Integer.MIN_VALUE, -100001, -2, -1, 0, 1, 2, 3, 4, 5, 6, 7, 8, 9, 10, 39, 40, 41,
        399, 400, 401, 9999, 10000, Integer.MAX_VALUE};
    private static final String[] PIECES = {"set ", "data ", "var ", "rule ", "goal ", "min ", "max ", "sum(", " in ",
        " for ", "a", "b", "s", "x", "abcd", "abcde", "0", "1", "7", "9999", "12345", "=", "<=", ">=", "<", "+", "-",
        "*", "(", ")", "[", "]", ",", ";", ":", "..", ".", " ", "\n", "@", "set s=1..2;", "var x[s] in -1..3;",
        "data c=4;", "rule r for i in s:x[i]<=c;", "goal max sum(i in s:i*x[i]);", "rule q:x[1]-2*x[2]>=c*c;"};

    public static void main(String[] args) {
        Check check = new Check();
        for (int seed = 0; seed < RUNS; seed++) {
            run(check, new Random(seed));
        }
        check.end();
    }

    private static void run(Check check, Random random) {
        ProblemTexts x = new ProblemTexts();
        for (int i = 0; i < CALLS; i++) {
            if (random.nextInt(3) == 0) {
                Check.feed(x, PIECES[random.nextInt(PIECES.length)]);
                continue;
            }
            int call = random.nextInt(20);
            String before = i % 16 == 0 ? Check.state(x) : null;
            long answer = answer(x, call, random);
            boolean refused = answer <= ProblemTexts.UNKNOWN && answer >= ProblemTexts.SIZE;
            // read and cut change THE TEXT, put the point, print OUT
            boolean changes = call == 1 || call == 2 || !refused && (call == 0 || call == 13 || call == 18);
            if (before != null && !changes) {
                check.due("the state behind call " + call, Check.state(x), before);
            }
        }
    }

    private static long answer(ProblemTexts x, int call, Random random) {
        int a = edge(random);
        int b = edge(random);
        int c = edge(random);
        switch (call) {
            case 0:
                return x.feed(a, random.nextLong());
            case 1:
                return random.nextInt(4) == 0 ? x.cut(a) : 0;
            case 2:
                return x.read();
            case 3:
                return x.name(a, b, c);
            case 4:
                return x.set(a, b);
            case 5:
                return x.data(a, b, c);
            case 6:
                return x.column(a, b, c);
            case 7:
                return x.about(a, b);
            case 8:
                return x.row(a, b);
            case 9:
                return x.factor(a, b);
            case 10:
                return x.right(a);
            case 11:
                return x.price(a);
            case 12:
                return x.count(a);
            case 13:
                return x.put(a, b);
            case 14:
                return x.left(a);
            case 15:
                return x.holds(a);
            case 16:
                return x.broken(a);
            case 17:
                return x.worth();
            case 18:
                return x.print(a);
            default:
                return x.out(a);
        }
    }

    private static int edge(Random random) {
        return random.nextInt(3) == 0 ? EDGES[random.nextInt(EDGES.length)] : random.nextInt(4);
    }
}
