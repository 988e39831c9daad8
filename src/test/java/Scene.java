import java.util.ArrayList;
import java.util.List;
import java.util.TreeSet;

/**
 * A run of calls on a new object, made anew as often as asked: a boundary meets an object that no other test
 * has touched, and no object is used for more calls than the document promises answers for.
 */
final class Scene {
    static final int MOST_CALLS = 512;
    private static final String STANDING = "set s=1..2;data c[s]=3 -4;var x[s] in -1..5;var y in 2..3;"
            + "rule r for i in s:x[i]<=c[i];rule q:y-x[1]>=2;goal max x[1]+2*y-9;";

    private final List<Call> steps = new ArrayList<>();
    private ProblemTexts now;
    private int calls = MOST_CALLS;
    private String everything;

    /** A new object. */
    static Scene fresh() {
        return new Scene();
    }

    /** A new object that has read the text, which must be a right one. */
    static Scene model(String text) {
        Scene scene = fresh().feed(text);
        long rows = scene.answer(new Call("read"));
        if (rows < 0) {
            throw new IllegalStateException("the test's own text is refused with " + rows + ": " + text);
        }
        return scene.and("read");
    }

    /** Nothing is empty or as at first: THE MODEL, the POINT, OUT, and THE TEXT, which "=2;" would make a rule. */
    static Scene standing() {
        return model(STANDING).and("put", 0, 4).and("put", 2, 3).and("print", 1).feed("rule w:1");
    }

    /** This run and one more call. */
    Scene and(String name, long... args) {
        Scene longer = new Scene();
        longer.steps.addAll(steps);
        longer.steps.add(new Call(name, args));
        return longer;
    }

    /** This run and the calls that feed the text, 8 bytes each but the last one. */
    Scene feed(String text) {
        Scene longer = new Scene();
        longer.steps.addAll(steps);
        for (int from = 0; from < text.length(); from += 8) {
            int to = Math.min(text.length(), from + 8);
            longer.steps.add(new Call("feed", to - from, word(text.substring(from, to))));
        }
        return longer;
    }

    /** The bytes of at most 8 characters as feed takes them, below bytes that it must pass over. */
    static long word(String text) {
        long w = -1;
        for (int i = 0; i < text.length(); i++) {
            w = w << 8 | text.charAt(i) & 255;
        }
        return w;
    }

    /** The answer of one more call, on an object of its own. */
    long answer(Call call) {
        return call.on(made());
    }

    /** The answer of a call that changes nothing. */
    long ask(String name, long... args) {
        if (calls >= MOST_CALLS) {
            now = made();
            calls = steps.size();
        }
        calls++;
        return new Call(name, args).on(now);
    }

    private ProblemTexts made() {
        if (steps.size() >= MOST_CALLS) {
            throw new IllegalStateException("the test's own run is too long");
        }
        ProblemTexts x = new ProblemTexts();
        for (Call step : steps) {
            step.on(x);
        }
        return x;
    }

    String out() {
        StringBuilder all = new StringBuilder();
        for (int i = 0; ask("out", i) != ProblemTexts.NONE; i++) {
            all.append((char) ask("out", i));
        }
        return all.toString();
    }

    String name(int sort, int k) {
        StringBuilder all = new StringBuilder();
        for (int i = 0; ask("name", sort, k, i) != ProblemTexts.UNKNOWN; i++) {
            all.append((char) ask("name", sort, k, i));
        }
        return all.toString();
    }

    /** All that can be told of the object; of THE TEXT by what becomes of it when more is fed and it is read. */
    String everything() {
        if (everything == null) {
            everything = answers() + " then " + feed("=2;").and("read").answers() + " by "
                    + feed("=2;").answer(new Call("read"));
        }
        return everything;
    }

    private String answers() {
        StringBuilder all = new StringBuilder();
        for (int what = 0; what <= 9; what++) {
            tell(all, "count", what);
        }
        for (int sort = 0; sort <= 3; sort++) {
            for (int k = 0; k < ask("count", sort); k++) {
                all.append(name(sort, k)).append(' ');
            }
        }
        tellPlaces(all);
        for (int column = 0; column < ask("count", 4); column++) {
            for (int what = 0; what <= 5; what++) {
                tell(all, "about", column, what);
            }
            tell(all, "price", column);
        }
        for (int row = 0; row < ask("count", 5); row++) {
            tellRow(all, row);
        }
        tell(all, "price", ProblemTexts.NONE);
        tell(all, "worth");
        return all.append(out()).toString();
    }

    private void tellPlaces(StringBuilder all) {
        TreeSet<Long> numbers = new TreeSet<>();
        numbers.add(-1L);
        for (int k = 0; k < ask("count", 0); k++) {
            tell(all, "set", k, 0);
            tell(all, "set", k, 1);
            for (long i = 0; i < ask("set", k, 0); i++) {
                numbers.add(ask("set", k, 1) + i);
            }
        }
        for (long i : numbers) {
            for (long j : numbers) {
                for (int k = 0; k < ask("count", 1); k++) {
                    tell(all, "data", k, i, j);
                }
                for (int k = 0; k < ask("count", 2); k++) {
                    tell(all, "column", k, i, j);
                }
            }
        }
    }

    private void tellRow(StringBuilder all, int row) {
        for (int what = 0; what <= 3; what++) {
            tell(all, "row", row, what);
        }
        for (int column = 0; column < ask("count", 4); column++) {
            tell(all, "factor", row, column);
        }
        tell(all, "right", row);
        tell(all, "left", row);
        tell(all, "holds", row);
        tell(all, "broken", row);
    }

    private void tell(StringBuilder all, String name, long... args) {
        all.append(ask(name, args)).append(' ');
    }
}
