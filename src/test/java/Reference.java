import java.util.ArrayList;
import java.util.HashMap;
import java.util.LinkedHashMap;
import java.util.List;
import java.util.Map;
import java.util.regex.Matcher;
import java.util.regex.Pattern;

/**
 * The document's text read a second way, slow and plain: a SUM is read anew for each value of its indices, and
 * a FAULT is thrown. Tests compare the program with it.
 */
final class Reference {
    private static final Pattern TOKEN = Pattern.compile("[ \n]*([a-z]+|[0-9]+|<=|>=|\\.\\.|[=+*()\\[\\],;:-])");
    private static final List<String> WORDS = List.of("set", "data", "var", "rule", "goal", "min", "max", "sum", "in",
            "for");
    private static final int MOST_PLACES = 6 * 64;

    static final class Fault extends Exception {
        private static final long serialVersionUID = 1;
        final int place;

        Fault(int place) {
            this.place = place;
        }
    }

    record Span(int first, int last) {
        int size() {
            return last - first + 1;
        }

        boolean has(int number) {
            return number >= first && number <= last;
        }
    }

    /** Data or a var: the spans of its OF, and for each place a VALUE or a COLUMN. */
    record Thing(boolean isVar, List<Span> of, Map<List<Integer>, Integer> places) {
    }

    /** What a SUM is: numbers for the COLUMNS and, first, one without; null where it was only looked over. */
    private record Form(long[] numbers, boolean holds, double work) {
    }

    record Row(String rule, List<Integer> indices, int rel, long[] difference) {
    }

    final Map<String, Span> sets = new LinkedHashMap<>();
    final Map<String, Thing> tables = new LinkedHashMap<>();
    final Map<String, Thing> vars = new LinkedHashMap<>();
    final List<String> rules = new ArrayList<>();
    final List<Row> rows = new ArrayList<>();
    final List<int[]> spans = new ArrayList<>();
    String goal = "";
    long[] prices;
    double work;
    private double rowCount;
    private final List<Runnable> later = new ArrayList<>();
    /** The indices around with their spans, and the numbers that they stand for, if they do. */
    private final Map<String, Span> around = new LinkedHashMap<>();
    private final Map<String, Integer> numbers = new HashMap<>();
    private final String text;
    private int at;
    private boolean lookedOver;
    private int answer;

    private Reference(String text) {
        this.text = text;
    }

    static Reference of(String text) {
        Reference made = new Reference(text);
        try {
            made.declarations();
            made.finish();
        } catch (Fault fault) {
            made.answer = -10 - fault.place;
        }
        return made;
    }

    int answer() {
        return answer;
    }

    private void finish() {
        lookedOver = true;
        if (spans.size() > 40 || rowCount > 40 || work > 20000) {
            answer = ProblemTexts.SIZE;
            return;
        }
        for (Runnable one : later) {
            one.run();
        }
        answer = rows.size();
    }

    // ---- tokens

    /** The place of the next TOKEN, of what is none, or of the end. */
    private int place() {
        int i = at;
        while (i < text.length() && (text.charAt(i) == ' ' || text.charAt(i) == '\n')) {
            i++;
        }
        return i;
    }

    /** The next TOKEN; "" at the end, and of what is none. */
    private String peek() {
        Matcher matcher = TOKEN.matcher(text).region(at, text.length());
        if (!matcher.lookingAt()) {
            return "";
        }
        String token = matcher.group(1);
        boolean run = Character.isLetterOrDigit(token.charAt(0));
        return run && token.length() > 4 ? "" : token;
    }

    private String next() {
        String token = peek();
        at = place() + token.length();
        return token;
    }

    private Fault wrong() {
        return new Fault(place());
    }

    private void take(String token) throws Fault {
        if (!peek().equals(token)) {
            throw wrong();
        }
        next();
    }

    private boolean takes(String token) {
        boolean is = peek().equals(token);
        if (is) {
            next();
        }
        return is;
    }

    private boolean isName(String token) {
        return token.matches("[a-z]{1,4}") && !WORDS.contains(token);
    }

    private int number() throws Fault {
        if (!peek().matches("[0-9]{1,4}")) {
            throw wrong();
        }
        return Integer.parseInt(next());
    }

    private int value() throws Fault {
        return takes("-") ? -number() : number();
    }

    private String newName() throws Fault {
        String name = peek();
        boolean taken = sets.containsKey(name) || tables.containsKey(name) || vars.containsKey(name)
                || rules.contains(name) || around.containsKey(name);
        // read again, an index may bear the NAME of a thing that was declared behind it
        if (!isName(name) || taken && !lookedOver) {
            throw wrong();
        }
        return name;
    }

    private Span setName() throws Fault {
        Span set = sets.get(peek());
        if (set == null) {
            throw wrong();
        }
        next();
        return set;
    }

    // ---- declarations

    private void declarations() throws Fault {
        while (place() < text.length()) {
            int start = place();
            switch (peek()) {
                case "set" -> set();
                case "data" -> thing(false);
                case "var" -> thing(true);
                case "rule" -> rule();
                case "goal" -> goal(start);
                default -> throw wrong();
            }
        }
    }

    private void named(int there, int most) throws Fault {
        next();
        newName();
        if (there == most) {
            throw wrong();
        }
    }

    private void set() throws Fault {
        named(sets.size(), 6);
        String name = next();
        take("=");
        int first = number();
        take("..");
        int start = place();
        int last = number();
        if (last - first >= 8 || last < first - 1) {
            throw new Fault(start);
        }
        sets.put(name, new Span(first, last));
        take(";");
    }

    private List<Span> of() throws Fault {
        List<Span> of = new ArrayList<>();
        if (takes("[")) {
            of.add(setName());
            if (takes(",")) {
                of.add(setName());
            }
            take("]");
        }
        return of;
    }

    private static List<List<Integer>> places(List<Span> of) {
        List<List<Integer>> all = new ArrayList<>();
        all.add(List.of());
        for (Span set : of) {
            List<List<Integer>> longer = new ArrayList<>();
            for (List<Integer> place : all) {
                for (int number = set.first; number <= set.last; number++) {
                    List<Integer> one = new ArrayList<>(place);
                    one.add(number);
                    longer.add(one);
                }
            }
            all = longer;
        }
        return all;
    }

    private void thing(boolean isVar) throws Fault {
        named((isVar ? vars : tables).size(), 6);
        String name = next();
        // its NAME is taken from here on
        (isVar ? vars : tables).put(name, new Thing(isVar, List.of(), Map.of()));
        List<Span> of = of();
        Map<List<Integer>, Integer> held = new LinkedHashMap<>();
        if (isVar) {
            take("in");
            int low = value();
            take("..");
            int start = place();
            int high = value();
            if (high < low) {
                throw new Fault(start);
            }
            for (List<Integer> place : places(of)) {
                held.put(place, spans.size());
                spans.add(new int[] {low, high});
            }
        } else {
            take("=");
            for (List<Integer> place : places(of)) {
                held.put(place, value());
            }
        }
        (isVar ? vars : tables).put(name, new Thing(isVar, of, held));
        take(";");
    }

    private void rule() throws Fault {
        named(rules.size(), 10);
        String name = next();
        rules.add(name);
        List<String> indices = takes("for") ? indices() : List.of();
        List<Span> of = new ArrayList<>();
        for (String index : indices) {
            of.add(around.get(index));
        }
        take(":");
        int start = at;
        Form left = sum(0, false);
        int rel = List.of("<=", "=", ">=").indexOf(peek()) - 1;
        if (rel < -1) {
            throw wrong();
        }
        next();
        int middle = at;
        Form right = sum(0, false);
        take(";");
        Map<String, Span> mine = new LinkedHashMap<>(around);
        around.clear();
        double many = places(of).size();
        rowCount += many;
        work += many * (left.work + right.work);
        later.add(() -> {
            around.putAll(mine);
            for (List<Integer> place : places(of)) {
                stand(indices, place);
                long[] difference = again(start);
                long[] other = again(middle);
                for (int i = 0; i < difference.length; i++) {
                    difference[i] -= other[i];
                }
                rows.add(new Row(name, place, rel, difference));
            }
            around.clear();
        });
    }

    private void goal(int start) throws Fault {
        if (!goal.isEmpty()) {
            throw new Fault(start);
        }
        next();
        if (!peek().equals("min") && !peek().equals("max")) {
            throw wrong();
        }
        goal = next();
        int from = at;
        work += sum(0, false).work;
        take(";");
        later.add(() -> prices = again(from));
    }

    private long[] again(int from) {
        at = from;
        try {
            return sum(0, true).numbers;
        } catch (Fault fault) {
            throw new IllegalStateException("a FAULT that was not seen at first", fault);
        }
    }

    private void stand(List<String> indices, List<Integer> place) {
        for (int i = 0; i < indices.size(); i++) {
            numbers.put(indices.get(i), place.get(i));
        }
    }

    // ---- sums

    private List<String> indices() throws Fault {
        List<String> all = new ArrayList<>();
        do {
            String name = newName();
            next();
            take("in");
            around.put(name, setName());
            all.add(name);
        } while (all.size() < 2 && takes(","));
        return all;
    }

    private static long[] zero() {
        return new long[1 + MOST_PLACES];
    }

    private static void add(long[] to, long[] more, long times) {
        for (int i = 0; i < to.length; i++) {
            to[i] += more[i] * times;
        }
    }

    private Form sum(int depth, boolean made) throws Fault {
        long[] all = zero();
        boolean holds = false;
        double total = 0;
        String sign = takes("-") ? "-" : "+";
        while (true) {
            Form part = part(depth, made);
            holds |= part.holds;
            total += part.work;
            if (made) {
                add(all, part.numbers, sign.equals("-") ? -1 : 1);
            }
            if (!peek().equals("+") && !peek().equals("-")) {
                return new Form(made ? all : null, holds, total);
            }
            sign = next();
        }
    }

    private Form part(int depth, boolean made) throws Fault {
        Form all = factor(depth, made);
        while (takes("*")) {
            int start = place();
            Form more = factor(depth, made);
            if (all.holds && more.holds) {
                throw new Fault(start);
            }
            long[] product = null;
            if (made) {
                product = zero();
                add(product, all.holds ? all.numbers : more.numbers, all.holds ? more.numbers[0] : all.numbers[0]);
            }
            all = new Form(product, all.holds || more.holds, all.work + more.work);
        }
        return all;
    }

    private Form factor(int depth, boolean made) throws Fault {
        String token = peek();
        if (token.equals("(") || token.equals("sum")) {
            if (depth == 8) {
                throw wrong();
            }
            return token.equals("(") ? brackets(depth, made) : repeated(depth, made);
        }
        if (token.matches("[0-9]+")) {
            return plain(number(), made);
        }
        if (around.containsKey(token)) {
            next();
            return plain(made ? numbers.get(token) : 0, made);
        }
        Thing thing = tables.containsKey(token) ? tables.get(token) : vars.get(token);
        if (thing == null) {
            throw wrong();
        }
        next();
        List<Integer> place = new ArrayList<>();
        for (int i = 0; i < thing.of.size(); i++) {
            take(i == 0 ? "[" : ",");
            place.add(placeIn(thing.of.get(i), made));
        }
        if (!thing.of.isEmpty()) {
            take("]");
        }
        if (!thing.isVar) {
            return plain(made ? thing.places.get(place) : 0, made);
        }
        long[] all = zero();
        if (made) {
            all[1 + thing.places.get(place)] = 1;
        }
        return new Form(made ? all : null, true, 1);
    }

    private static Form plain(long number, boolean made) {
        long[] all = zero();
        all[0] = number;
        return new Form(made ? all : null, false, 1);
    }

    private int placeIn(Span set, boolean made) throws Fault {
        String token = peek();
        if (around.containsKey(token)) {
            Span index = around.get(token);
            for (int number = index.first; number <= index.last; number++) {
                if (!set.has(number)) {
                    throw wrong();
                }
            }
            next();
            return made ? numbers.get(token) : 0;
        }
        int start = place();
        int number = number();
        if (!set.has(number)) {
            throw new Fault(start);
        }
        return number;
    }

    private Form brackets(int depth, boolean made) throws Fault {
        next();
        Form inner = sum(depth + 1, made);
        take(")");
        return new Form(inner.numbers, inner.holds, 1 + inner.work);
    }

    private Form repeated(int depth, boolean made) throws Fault {
        next();
        take("(");
        List<String> indices = indices();
        List<Span> of = new ArrayList<>();
        for (String index : indices) {
            of.add(around.get(index));
        }
        take(":");
        int start = at;
        Form inner = sum(depth + 1, false);
        long[] all = zero();
        for (List<Integer> place : made ? places(of) : List.<List<Integer>>of()) {
            stand(indices, place);
            at = start;
            add(all, sum(depth + 1, true).numbers, 1);
        }
        take(")");
        for (String index : indices) {
            around.remove(index);
        }
        return new Form(made ? all : null, inner.holds, 1 + inner.work * places(of).size());
    }
}
