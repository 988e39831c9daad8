import java.io.File;
import java.io.IOException;
import java.lang.reflect.Constructor;
import java.lang.reflect.Field;
import java.lang.reflect.Method;
import java.lang.reflect.Modifier;
import java.nio.file.Files;
import java.nio.file.Path;
import java.util.Arrays;
import java.util.Set;
import java.util.TreeSet;
import java.util.regex.Matcher;
import java.util.regex.Pattern;

/** The public face, and those rules of LANGUAGE.md that can be seen without reading; a test for each promise. */
public final class LanguageTest {
    private static final String[] FACE = {"int feed(int, long)", "int cut(int)", "int read()", "int name(int, int, int)",
        "int set(int, int)", "int data(int, int, int)", "int column(int, int, int)", "int about(int, int)",
        "int row(int, int)", "long factor(int, int)", "long right(int)", "long price(int)", "int count(int)",
        "int put(int, int)", "long left(int)", "int holds(int)", "int broken(int)", "long worth()", "int print(int)",
        "int out(int)"};

    public static void main(String[] args) throws IllegalAccessException {
        Check.run(LanguageTest.class);
    }

    static void face(Check check) {
        Set<String> want = new TreeSet<>(Arrays.asList(FACE));
        Set<String> got = new TreeSet<>();
        for (Method method : ProblemTexts.class.getDeclaredMethods()) {
            if (Modifier.isPublic(method.getModifiers())) {
                String types = Arrays.toString(method.getParameterTypes()).replace("[", "(").replace("]", ")");
                got.add(method.getReturnType() + " " + method.getName() + types);
            } else {
                check.due(method + " is private", Modifier.isPrivate(method.getModifiers()) ? 1 : 0, 1);
            }
        }
        check.due("the public methods", got.toString(), want.toString());
        Set<String> constants = new TreeSet<>();
        for (Field field : ProblemTexts.class.getDeclaredFields()) {
            if (!Modifier.isPrivate(field.getModifiers())) {
                constants.add(Modifier.toString(field.getModifiers()) + " " + field.getType() + " " + field.getName());
            }
        }
        check.due("the public constants", constants.toString(), "[public static final int NONE, "
                + "public static final int OUTSIDE, public static final int SIZE, public static final int STATE, "
                + "public static final int UNKNOWN]");
        Constructor<?>[] made = ProblemTexts.class.getDeclaredConstructors();
        check.due("one constructor", made.length, 1);
        check.due("it", made[0].toString(), "public ProblemTexts()");
        check.due("the class", Modifier.toString(ProblemTexts.class.getModifiers()), "public final");
    }

    static void nested(Check check) {
        Set<String> names = new TreeSet<>();
        for (String call : FACE) {
            names.add(call.substring(call.indexOf(' ') + 1, call.indexOf('(')));
        }
        Class<?>[] classes = ProblemTexts.class.getDeclaredClasses();
        check.due("at most twelve classes", classes.length + 1 <= 12 ? 1 : 0, 1);
        for (Class<?> inside : classes) {
            check.due(inside + " is static", Modifier.isStatic(inside.getModifiers()) ? 1 : 0, 1);
            check.due(inside + " has at most twenty fields", inside.getDeclaredFields().length <= 20 ? 1 : 0, 1);
            for (Method method : inside.getDeclaredMethods()) {
                check.due(method + " bears no public name", names.contains(method.getName()) ? 1 : 0, 0);
                check.due(method + " has at most seven parameters", method.getParameterCount() <= 7 ? 1 : 0, 1);
            }
            for (Field field : inside.getDeclaredFields()) {
                boolean fine = !Modifier.isStatic(field.getModifiers()) || Modifier.isFinal(field.getModifiers());
                check.due(field + " is no changing static", fine ? 1 : 0, 1);
            }
        }
    }

    static void source(Check check) throws IOException {
        String source = Files.readString(Path.of("src/main/java/ProblemTexts.java"));
        String code = source.replaceAll("(?s)/\\*.*?\\*/", "").replaceAll("//[^\n]*", "")
                .replaceAll("\"(\\\\.|[^\"\\\\])*\"", "\"\"");
        String[] words = {"throw", "throws", "try", "catch", "synchronized", "assert", "package", "double", "float",
            "volatile", "transient", "native", "equals", "hashCode", "toString", "System", "Random", "Thread"};
        for (String word : words) {
            check.due("the word " + word, Pattern.compile("\\b" + word + "\\b").matcher(code).find() ? 1 : 0, 0);
        }
        check.due("lambdas", code.contains("->") ? 1 : 0, 0);
        check.due("method references", code.contains("::") ? 1 : 0, 0);
        check.due("static blocks", Pattern.compile("static\\s*\\{").matcher(code).find() ? 1 : 0, 0);
        check.due("functions that throw", code.contains("Exact(") ? 1 : 0, 0);
        Matcher imports = Pattern.compile("(?m)^import [^;]*;").matcher(code);
        while (imports.find()) {
            check.due("an import", imports.group(), "import java.util.Arrays;");
        }
        lengths(check, source);
    }

    static void eachPromiseHasATest(Check check) {
        String[] tests = new File("src/test/java").list();
        for (int promise = 1; promise <= FACE.length + 1; promise++) {
            String call = promise == 1 ? "newobject" : FACE[promise - 2].replaceAll("^[a-z]+ |\\(.*", "");
            String want = String.format("promise%02d%stest.java", promise, call);
            int found = 0;
            for (String test : tests == null ? new String[0] : tests) {
                found += test.toLowerCase().equals(want) ? 1 : 0;
            }
            check.due("tests named " + want, found, 1);
        }
    }

    /** A method starts at a line that ends with { and has a ( ahead of it, and ends at } in the same column. */
    private static void lengths(Check check, String source) {
        String[] lines = source.split("\n");
        Pattern head = Pattern.compile("^( {4}| {8})(?!if|for|while|switch|else|do)[A-Za-z].*\\(.*\\) \\{$");
        for (int i = 0; i < lines.length; i++) {
            Matcher matcher = head.matcher(lines[i]);
            if (matcher.find() && !lines[i].contains("=")) {
                int end = i;
                while (end < lines.length && !lines[end].equals(matcher.group(1) + "}")) {
                    end++;
                }
                check.due("a short method: " + lines[i].trim(), end - i <= 60 ? 1 : 0, 1);
            }
            check.due("line " + (i + 1) + " is short", lines[i].length() <= 120 ? 1 : 0, 1);
        }
    }
}
