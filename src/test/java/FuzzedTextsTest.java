import java.util.ArrayList;
import java.util.List;
import java.util.Map;
import java.util.Random;
import java.util.regex.Matcher;
import java.util.regex.Pattern;

/** Promise 4 and 5 to 14: texts that are nearly right, made from right ones at random, against the Reference. */
public final class FuzzedTextsTest {
    private static final int TEXTS = 12000, MODELS = 3000;
    private static final Pattern TOKEN = Pattern.compile("[a-z]+|[0-9]+|<=|>=|\\.\\.|[^ \n]");
    private static final String[] RIGHT = {
        "set s = 1 .. 3 ; set t = 0 .. 1 ; data c [ s ] = 5 - 6 7 ; data d = - 3 ; var x [ s ] in - 1 .. 4 ; var y "
            + "[ s , t ] in 0 .. 9 ; rule r for i in s : x [ i ] - y [ i , 0 ] <= c [ i ] * d ; goal max sum ( i in s , "
            + "j in t : c [ i ] * y [ i , j ] ) - ( x [ 1 ] - 2 ) * 3 ;",
        "set a = 5 .. 4 ; set b = 2 .. 9 ; var n [ a ] in 0 .. 1 ; var m [ b ] in - 3 .. - 2 ; rule p for i in b , j in "
            + "a : n [ j ] + m [ i ] = i * j ; rule q : sum ( k in a : n [ k ] * k ) >= m [ 2 ] * ( 1 + 2 ) ;",
        "data a = 1 ; data b = 2 ; data c = 3 ; data d = 4 ; data e = 5 ; data f = 6 ; var g in 0 .. 1 ; var h in 0 .. 1 "
            + "; var i in 0 .. 1 ; var j in 0 .. 1 ; var k in 0 .. 1 ; var l in 0 .. 1 ; goal min a * g - b * h + c * ( "
            + "i - j ) ;",
        "set s = 0 .. 0 ; goal min ( ( ( ( sum ( i in s : ( ( sum ( j in s , k in s : i + j * k ) ) ) ) ) ) ) ) ; "
            + "rule r for i in s : sum ( j in s : ( i ) ) = - 1 ;",
        "rule a : 1 = 1 ; rule b : 1 = 1 ; rule c : 1 = 1 ; rule d : 1 = 1 ; rule e : 1 = 1 ; rule f : 1 = 1 ; rule g : "
            + "1 = 1 ; rule h : 1 = 1 ; rule i : 1 = 1 ; rule j : 1 = 1 ; set k = 1 .. 8 ; set l = 1 .. 8 ;",
        "set s = 1 .. 6 ; set t = 1 .. 7 ; var x [ s , t ] in 0 .. 1 ;", "set s = 1 .. 6 ; set t = 1 .. 7 ; "
            + "rule r for i in s , j in t : i = j ; goal min sum ( i in s : sum ( j in t : sum ( k in s : 1 ) ) ) ;",
        "set s = 1 .. 8 ; set t = 2 .. 7 ; goal min sum ( i in s , j in t : sum ( k in s , l in t : 1 + 1 + 1 * 1 - 1 + 1 "
            + "+ 1 + 1 + 1 ) ) + 1 ;"};
    private static final String[] PIECES = {"set", "data", "var", "rule", "goal", "min", "max", "sum", "in", "for", "s",
        "t", "a", "i", "j", "x", "y", "q", "abcd", "abcde", "0", "1", "2", "7", "8", "9", "9999", "12345", "=", "<=",
        ">=", "+", "-", "*", "(", ")", "[", "]", ",", ";", ":", "..", "<", ">", ".", "@", "\u00e4"};

    private final Random random;

    private FuzzedTextsTest(long seed) {
        random = new Random(seed);
    }

    public static void main(String[] args) throws IllegalAccessException {
        Check.run(FuzzedTextsTest.class);
    }

    static void nearlyRightTexts(Check check) {
        int faults = 0;
        int models = 0;
        for (int seed = 0; seed < TEXTS; seed++) {
            FuzzedTextsTest fuzzed = new FuzzedTextsTest(seed);
            String text = fuzzed.changed(RIGHT[seed % RIGHT.length]);
            int answer = compare(check, text);
            faults += answer <= -10 && answer > ProblemTexts.UNKNOWN ? 1 : 0;
            models += answer >= 0 ? 1 : 0;
        }
        check.due("enough of both", faults > TEXTS / 3 && models > TEXTS / 20 ? 1 : 0, 1);
    }

    static void nearlyRightModels(Check check) {
        for (int seed = 0; seed < MODELS; seed++) {
            String text = GeneratedModelsTest.textOf(seed);
            if (text.length() <= 400) {
                compare(check, text);
                compare(check, new FuzzedTextsTest(seed).changed(text));
            }
        }
    }

    /** One to three TOKENS are left out, doubled, exchanged, or replaced; blanks stand where they must, or more. */
    private String changed(String text) {
        List<String> tokens = new ArrayList<>();
        Matcher matcher = TOKEN.matcher(text);
        while (matcher.find()) {
            tokens.add(matcher.group());
        }
        for (int i = random.nextInt(3); i >= 0 && !tokens.isEmpty(); i--) {
            change(tokens);
        }
        StringBuilder all = new StringBuilder();
        for (String token : tokens) {
            boolean run = all.length() > 0 && Character.isLetterOrDigit(all.charAt(all.length() - 1))
                    && Character.isLetterOrDigit(token.charAt(0));
            all.append(random.nextInt(20) == 0 ? "\n" : run && random.nextInt(40) != 0 ? " " : "").append(token);
        }
        return all.length() <= 400 ? all.toString() : all.substring(0, 400);
    }

    private void change(List<String> tokens) {
        int at = random.nextInt(tokens.size());
        switch (random.nextInt(7)) {
            case 0 -> tokens.remove(at);
            case 1 -> tokens.add(at, tokens.get(at));
            case 2 -> tokens.add(at, PIECES[random.nextInt(PIECES.length)]);
            case 3 -> tokens.set(at, PIECES[random.nextInt(PIECES.length)]);
            case 4 -> tokens.set(at, tokens.set(random.nextInt(tokens.size()), tokens.get(at)));
            case 5 -> {
                if (tokens.get(at).matches("[0-9]{1,4}")) {
                    int number = Integer.parseInt(tokens.get(at)) + random.nextInt(5) - 2;
                    tokens.set(at, String.valueOf(Math.max(0, number)));
                }
            }
            default -> {
                if (random.nextInt(8) == 0) {
                    tokens.subList(at, tokens.size()).clear();
                }
            }
        }
    }

    private static int compare(Check check, String text) {
        Reference want = Reference.of(text);
        Scene x = Scene.fresh().feed(text);
        check.due("read of " + text, x.answer(new Call("read")), want.answer());
        if (want.answer() >= 0) {
            compareModel(check, text, x.and("read"), want);
        }
        return want.answer();
    }

    private static void compareModel(Check check, String text, Scene x, Reference want) {
        String goals = " minmax";
        long[] counts = {want.sets.size(), want.tables.size(), want.vars.size(), want.rules.size(), want.spans.size(),
            want.rows.size(), (long) want.work, want.goal.isEmpty() ? 0 : goals.indexOf(want.goal) / 3 + 1, 0, 0};
        for (int what = 0; what < counts.length; what++) {
            check.due("count(" + what + ") of " + text, x.ask("count", what), counts[what]);
        }
        int k = 0;
        for (Map.Entry<String, Reference.Span> set : want.sets.entrySet()) {
            check.due("a set's NAME of " + text, x.name(0, k), set.getKey());
            check.due("set(.., 0) of " + text, x.ask("set", k, 0), set.getValue().size());
            check.due("set(.., 1) of " + text, x.ask("set", k, 1), set.getValue().first());
            k++;
        }
        compareThings(check, text, x, "data", 1, want.tables);
        compareThings(check, text, x, "column", 2, want.vars);
        for (int row = 0; row < want.rows.size(); row++) {
            compareRow(check, text, x, want, row);
        }
        for (int column = 0; column < want.spans.size(); column++) {
            check.due("about(.., 3) of " + text, x.ask("about", column, 3), want.spans.get(column)[0]);
            check.due("about(.., 4) of " + text, x.ask("about", column, 4), want.spans.get(column)[1]);
            long price = want.prices == null ? ProblemTexts.STATE : want.prices[1 + column];
            check.due("price(" + column + ") of " + text, x.ask("price", column), price);
        }
        long without = want.prices == null ? ProblemTexts.STATE : want.prices[0];
        check.due("price(-1) of " + text, x.ask("price", -1), without);
    }

    private static void compareThings(Check check, String text, Scene x, String call, int sort,
            Map<String, Reference.Thing> things) {
        int k = 0;
        for (Map.Entry<String, Reference.Thing> thing : things.entrySet()) {
            check.due("a NAME of " + text, x.name(sort, k), thing.getKey());
            for (Map.Entry<List<Integer>, Integer> place : thing.getValue().places().entrySet()) {
                List<Integer> at = place.getKey();
                long first = at.isEmpty() ? -7 : at.get(0);
                long second = at.size() < 2 ? -7 : at.get(1);
                check.due(call + " of " + text, x.ask(call, k, first, second), place.getValue());
            }
            k++;
        }
    }

    private static void compareRow(Check check, String text, Scene x, Reference want, int row) {
        Reference.Row due = want.rows.get(row);
        List<Integer> indices = due.indices();
        check.due("row(.., 0) of " + text, x.ask("row", row, 0), want.rules.indexOf(due.rule()));
        check.due("row(.., 1) of " + text, x.ask("row", row, 1), indices.isEmpty() ? -1 : indices.get(0));
        check.due("row(.., 2) of " + text, x.ask("row", row, 2), indices.size() < 2 ? -1 : indices.get(1));
        check.due("row(.., 3) of " + text, x.ask("row", row, 3), due.rel());
        check.due("right(" + row + ") of " + text, x.ask("right", row), -due.difference()[0]);
        for (int column = 0; column < want.spans.size(); column++) {
            check.due("factor of " + text, x.ask("factor", row, column), due.difference()[1 + column]);
        }
    }
}
