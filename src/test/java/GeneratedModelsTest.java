import java.util.ArrayList;
import java.util.HashMap;
import java.util.List;
import java.util.Map;
import java.util.Random;

/**
 * Promises 4 and 10 to 20 on models made at random: each SUM is written as text and kept as a tree that is
 * multiplied out term by term, another way than the program's.
 */
public final class GeneratedModelsTest {
    private static final int MODELS = 4000;

    private interface Tree {
        /** A number for each column, and one without vars behind them. */
        long[] at(Map<String, Integer> indices);
    }

    private record Written(String text, Tree tree, int work, boolean holds) {
    }

    private record Span(String name, int first, int size) {
    }

    private record Thing(String name, List<Span> of, int start) {
    }

    private final Random random;
    private final StringBuilder text = new StringBuilder();
    private final List<Span> sets = new ArrayList<>();
    private final List<Thing> vars = new ArrayList<>();
    private final List<Thing> tables = new ArrayList<>();
    private final List<Integer> values = new ArrayList<>();
    private final List<Span> around = new ArrayList<>();
    private final List<long[]> rows = new ArrayList<>();
    private final List<String> heads = new ArrayList<>();
    private final List<Integer> relations = new ArrayList<>();
    private final List<Integer> lows = new ArrayList<>();
    private final List<String> columnNames = new ArrayList<>();
    private long[] goal;
    private long work;
    private int names;

    private GeneratedModelsTest(long seed) {
        random = new Random(seed);
    }

    public static void main(String[] args) throws IllegalAccessException {
        Check.run(GeneratedModelsTest.class);
    }

    static void modelsMadeAtRandom(Check check) {
        int read = 0;
        for (int seed = 0; seed < MODELS; seed++) {
            GeneratedModelsTest made = new GeneratedModelsTest(seed);
            made.write();
            if (made.text.length() <= 400) {
                made.compare(check);
                read++;
            }
        }
        check.due("enough models fit into a text", read > MODELS / 4 ? 1 : 0, 1);
    }

    static String textOf(long seed) {
        GeneratedModelsTest made = new GeneratedModelsTest(seed);
        made.write();
        return made.text.toString();
    }

    private void write() {
        for (int i = random.nextInt(3); i >= 0; i--) {
            int first = 1 + random.nextInt(3);
            int size = random.nextInt(4);
            Span set = new Span(newName(), first, size);
            sets.add(set);
            text.append("set ").append(set.name).append('=').append(first).append("..").append(first + size - 1)
                    .append(";");
        }
        for (int i = random.nextInt(3); i >= 0; i--) {
            writeTable();
        }
        for (int i = random.nextInt(3); i >= 0; i--) {
            writeVar();
        }
        for (int i = random.nextInt(3); i >= 0; i--) {
            writeRule();
        }
        if (random.nextBoolean()) {
            Written sum = sum(0, true);
            text.append("goal ").append(random.nextBoolean() ? "min " : "max ").append(sum.text).append(";\n");
            goal = sum.tree.at(new HashMap<>());
            work += sum.work;
        }
    }

    private String newName() {
        names++;
        return names <= 20 ? String.valueOf((char) ('a' + names - 1)) : "v" + (char) ('a' + names % 26)
                + (char) ('a' + names / 26 % 26) + "q";
    }

    private List<Span> writeOf() {
        List<Span> of = new ArrayList<>();
        for (int i = random.nextInt(3); i > 0; i--) {
            Span set = sets.get(random.nextInt(sets.size()));
            text.append(of.isEmpty() ? "[" : ",").append(set.name);
            of.add(set);
        }
        text.append(of.isEmpty() ? "" : "]");
        return of;
    }

    private void writeTable() {
        String name = newName();
        text.append("data ").append(name);
        List<Span> of = writeOf();
        text.append('=');
        tables.add(new Thing(name, of, values.size()));
        for (int i = 0; i < places(of); i++) {
            int value = random.nextInt(4) == 0 ? random.nextInt(19999) - 9999 : random.nextInt(7) - 3;
            values.add(value);
            text.append(value).append(' ');
        }
        text.append(';');
    }

    private void writeVar() {
        String name = newName();
        text.append("var ").append(name);
        List<Span> of = writeOf();
        int low = random.nextInt(9) - 4;
        text.append(" in ").append(low).append("..").append(low + random.nextInt(5)).append(';');
        vars.add(new Thing(name, of, columnNames.size()));
        for (int i = 0; i < places(of); i++) {
            int width = of.size() < 2 ? 1 : of.get(1).size;
            String place = of.isEmpty() ? "" : "[" + (of.get(0).first + i / width)
                    + (of.size() < 2 ? "" : "," + (of.get(1).first + i % width)) + "]";
            columnNames.add(name + place);
            lows.add(low);
        }
    }

    private static int places(List<Span> of) {
        int places = 1;
        for (Span set : of) {
            places *= set.size;
        }
        return places;
    }

    private void writeRule() {
        String name = newName();
        text.append("rule ").append(name);
        List<Span> indices = new ArrayList<>();
        String told = indices(random.nextInt(3), indices);
        text.append(told.isEmpty() ? "" : " for ").append(told).append(':');
        Written left = sum(0, true);
        Written right = sum(0, true);
        int relation = random.nextInt(3) - 1;
        text.append(left.text).append(relation < 0 ? "<=" : relation == 0 ? "=" : ">=").append(right.text).append(";\n");
        around.clear();
        Tree difference = env -> {
            long[] one = left.tree.at(env);
            long[] two = right.tree.at(env);
            for (int i = 0; i < one.length; i++) {
                one[i] -= two[i];
            }
            rows.add(one);
            heads.add(name + ": ");
            relations.add(relation);
            return one;
        };
        forAll(indices, 0, new HashMap<>(), difference);
        work += (long) (left.work + right.work) * places(indices);
    }

    private String indices(int many, List<Span> into) {
        StringBuilder told = new StringBuilder();
        for (int i = 0; i < many; i++) {
            Span set = sets.get(random.nextInt(sets.size()));
            Span index = new Span(newName(), set.first, set.size);
            told.append(i == 0 ? "" : ",").append(index.name).append(" in ").append(set.name);
            into.add(index);
            around.add(index);
        }
        return told.toString();
    }

    private static void forAll(List<Span> indices, int from, Map<String, Integer> env, Tree tree) {
        if (from == indices.size()) {
            tree.at(env);
            return;
        }
        Span index = indices.get(from);
        for (int number = index.first; number < index.first + index.size; number++) {
            Map<String, Integer> inner = new HashMap<>(env);
            inner.put(index.name, number);
            forAll(indices, from + 1, inner, tree);
        }
    }

    private Written sum(int depth, boolean mayHold) {
        StringBuilder written = new StringBuilder();
        List<Tree> parts = new ArrayList<>();
        List<Boolean> minus = new ArrayList<>();
        int sumWork = 0;
        boolean holds = false;
        for (int i = random.nextInt(3); i >= 0; i--) {
            boolean below = random.nextInt(3) == 0;
            written.append(below ? "-" : parts.isEmpty() ? "" : "+");
            Written part = part(depth, mayHold);
            written.append(part.text);
            parts.add(part.tree);
            minus.add(below);
            sumWork += part.work;
            holds |= part.holds;
        }
        Tree tree = env -> {
            long[] all = new long[columnNames.size() + 1];
            for (int k = 0; k < parts.size(); k++) {
                long[] part = parts.get(k).at(env);
                for (int i = 0; i < all.length; i++) {
                    all[i] += minus.get(k) ? -part[i] : part[i];
                }
            }
            return all;
        };
        return new Written(written.toString(), tree, sumWork, holds);
    }

    private Written part(int depth, boolean mayHold) {
        Written all = factor(depth, mayHold);
        for (int i = random.nextInt(3); i > 0; i--) {
            Written one = all;
            Written two = factor(depth, mayHold && !all.holds);
            Tree tree = env -> product(one.tree.at(env), two.tree.at(env));
            all = new Written(one.text + "*" + two.text, tree, one.work + two.work, one.holds || two.holds);
        }
        return all;
    }

    /** Multiplied out; one of the two has numbers at its end alone. */
    private static long[] product(long[] one, long[] two) {
        int last = one.length - 1;
        long[] all = new long[one.length];
        for (int i = 0; i < last; i++) {
            all[i] = one[i] * two[last] + one[last] * two[i];
        }
        all[last] = one[last] * two[last];
        return all;
    }

    private Written factor(int depth, boolean mayHold) {
        int kind = random.nextInt(depth < 3 ? 7 : 4);
        if (kind == 1 && !around.isEmpty()) {
            String index = around.get(random.nextInt(around.size())).name;
            return new Written(index, env -> without(env.get(index)), 1, false);
        }
        if (kind == 2) {
            return named(tables.get(random.nextInt(tables.size())), false);
        }
        if (kind == 3 || kind == 4) {
            return mayHold ? named(vars.get(random.nextInt(vars.size())), true) : number();
        }
        if (kind == 5) {
            Written inner = sum(depth + 1, mayHold);
            return new Written("(" + inner.text + ")", inner.tree, 1 + inner.work, inner.holds);
        }
        return kind == 6 ? repeated(depth, mayHold) : number();
    }

    private Written number() {
        int number = random.nextInt(5) == 0 ? random.nextInt(10000) : random.nextInt(4);
        return new Written(String.valueOf(number), env -> without(number), 1, false);
    }

    private long[] without(long number) {
        long[] all = new long[columnNames.size() + 1];
        all[all.length - 1] = number;
        return all;
    }

    private Written repeated(int depth, boolean mayHold) {
        int before = around.size();
        List<Span> indices = new ArrayList<>();
        String told = indices(1 + random.nextInt(2), indices);
        Written inner = sum(depth + 1, mayHold);
        while (around.size() > before) {
            around.remove(around.size() - 1);
        }
        Tree tree = env -> {
            long[] all = new long[columnNames.size() + 1];
            forAll(indices, 0, env, now -> {
                long[] one = inner.tree.at(now);
                for (int i = 0; i < all.length; i++) {
                    all[i] += one[i];
                }
                return one;
            });
            return all;
        };
        return new Written("sum(" + told + ":" + inner.text + ")", tree, 1 + inner.work * places(indices), inner.holds);
    }

    private Written named(Thing thing, boolean isVar) {
        List<String> places = new ArrayList<>();
        for (Span set : thing.of) {
            String place = place(set);
            if (place.isEmpty()) {
                return number();
            }
            places.add(place);
        }
        Tree tree = env -> {
            int spot = 0;
            for (int i = 0; i < places.size(); i++) {
                Integer index = env.get(places.get(i));
                int number = index == null ? Integer.parseInt(places.get(i)) : index;
                spot = spot * thing.of.get(i).size + number - thing.of.get(i).first;
            }
            long[] all = without(0);
            if (isVar) {
                all[thing.start + spot] = 1;
            } else {
                all[all.length - 1] = values.get(thing.start + spot);
            }
            return all;
        };
        String told = places.isEmpty() ? "" : "[" + String.join(",", places) + "]";
        return new Written(thing.name + told, tree, 1, isVar);
    }

    /** An index whose numbers are all in the set, or a number, or nothing if the set has none. */
    private String place(Span set) {
        for (Span index : around) {
            boolean fits = index.size == 0
                    || index.first >= set.first && index.first + index.size <= set.first + set.size;
            if (fits && random.nextBoolean()) {
                return index.name;
            }
        }
        return set.size == 0 ? "" : String.valueOf(set.first + random.nextInt(set.size));
    }

    private void compare(Check check) {
        Scene fed = Scene.fresh().feed(text.toString());
        int columns = columnNames.size();
        boolean large = columns > 40 || rows.size() > 40 || work > 20000;
        check.due("read of " + text, fed.answer(new Call("read")), large ? ProblemTexts.SIZE : rows.size());
        if (large) {
            return;
        }
        Scene x = fed.and("read");
        check.due("columns of " + text, x.ask("count", 4), columns);
        check.due("work of " + text, x.ask("count", 6), work);
        for (int row = 0; row < rows.size(); row++) {
            compareRow(check, x, row);
        }
        for (int i = 0; goal != null && i < columns; i++) {
            check.due("price(" + i + ") of " + text, x.ask("price", i), goal[i]);
        }
        check.due("price(-1) of " + text, x.ask("price", -1), goal == null ? ProblemTexts.STATE : goal[columns]);
    }

    private void compareRow(Check check, Scene x, int row) {
        int columns = columnNames.size();
        StringBuilder want = new StringBuilder();
        long left = 0;
        for (int i = 0; i < columns; i++) {
            long factor = rows.get(row)[i];
            check.due("factor(" + row + ", " + i + ") of " + text, x.ask("factor", row, i), factor);
            left += factor * lows.get(i);
            if (factor != 0) {
                String sign = want.length() == 0 ? factor < 0 ? "-" : "" : factor < 0 ? " - " : " + ";
                String size = Long.toString(factor).replace("-", "");
                want.append(sign).append(size.equals("1") ? "" : size + "*").append(columnNames.get(i));
            }
        }
        long right = -rows.get(row)[columns];
        int relation = relations.get(row);
        check.due("right(" + row + ") of " + text, x.ask("right", row), right);
        check.due("left(" + row + ") of " + text, x.ask("left", row), left);
        boolean holds = relation < 0 ? left <= right : relation == 0 ? left == right : left >= right;
        check.due("holds(" + row + ") of " + text, x.ask("holds", row), holds ? 1 : 0);
        want.append(want.length() == 0 ? "0" : "").append(relation < 0 ? " <= " : relation == 0 ? " = " : " >= ");
        String line = heads.get(row) + want + right + ";";
        check.due("print(" + row + ") of " + text, x.answer(new Call("print", row)), line.length());
        check.due("OUT of row " + row + " of " + text, x.and("print", row).out(), line);
    }
}
