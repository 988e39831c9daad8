import java.lang.reflect.InvocationTargetException;
import java.lang.reflect.Method;
import java.lang.reflect.Modifier;
import java.util.Arrays;
import java.util.Comparator;

/** What the tests share: running each sentence's test, comparing answers, ending with an exit code. */
final class Check {
    static final int LEAST = Integer.MIN_VALUE, MOST = Integer.MAX_VALUE;
    /** 8 to the power 21 is 2 to the power 63, which runs over to the least long. */
    static final String LEAST_LONG = "8" + "*8".repeat(20);

    private final Scene standing = Scene.standing();
    private final Scene standingWithoutText = standing.and("cut", 0);
    private String now = "";
    private int done;
    private int wrong;

    /** Runs each static method of the class that takes a Check: one sentence each. */
    static void run(Class<?> tests) throws IllegalAccessException {
        Check check = new Check();
        Method[] methods = tests.getDeclaredMethods();
        Arrays.sort(methods, Comparator.comparing(Method::getName));
        int sentences = 0;
        for (Method method : methods) {
            boolean takesCheck = Arrays.equals(method.getParameterTypes(), new Class<?>[] {Check.class});
            if (takesCheck && Modifier.isStatic(method.getModifiers())) {
                check.runOne(tests, method);
                sentences++;
            }
        }
        System.out.println(sentences + " tests, " + check.done + " answers, " + check.wrong + " not as due");
        if (check.wrong != 0 || sentences == 0) {
            System.exit(1);
        }
    }

    private void runOne(Class<?> tests, Method method) throws IllegalAccessException {
        now = tests.getName() + "." + method.getName() + ": ";
        int before = done;
        method.setAccessible(true);
        try {
            method.invoke(null, this);
        } catch (InvocationTargetException e) {
            e.getCause().printStackTrace(System.out);
            fail("has thrown " + e.getCause());
        }
        if (done == before) {
            fail("has compared nothing");
        }
    }

    private void fail(String told) {
        wrong++;
        System.out.println(now + told);
    }

    void due(String told, long got, long want) {
        done++;
        if (got != want) {
            fail(told + " answered " + got + ", due is " + want);
        }
    }

    void due(String told, String got, String want) {
        done++;
        if (!got.equals(want)) {
            fail(told + " answered " + got + ", due is " + want);
        }
    }

    /** One more call has that answer, on an object of its own. */
    void answers(Scene scene, long want, String name, long... args) {
        Call call = new Call(name, args);
        due(call.toString(), scene.answer(call), want);
    }

    /** One more call has that answer and changes nothing. */
    void refuses(Scene scene, long want, String name, long... args) {
        answers(scene, want, name, args);
        due("everything behind " + new Call(name, args), scene.and(name, args).everything(), scene.everything());
    }

    /** As refuses(), on an object on which nothing is empty. */
    void refuses(long want, String name, long... args) {
        refuses(standing, want, name, args);
    }

    /** The text is read to that many ROWS. */
    void rows(String text, int want) {
        Scene fed = Scene.fresh().feed(text);
        due("bytes of the test's own text", fed.ask("count", 8), text.length());
        due("read of " + text, fed.answer(new Call("read")), want);
        due("ROWS of " + text, fed.and("read").ask("count", 5), want);
        due("THE TEXT behind " + text, fed.and("read").ask("count", 8), 0);
    }

    /** The text is read to that answer; THE MODEL and all else stays, but THE TEXT is taken. */
    void stays(String text, int want) {
        Scene fed = standingWithoutText.feed(text);
        due("bytes of the test's own text", fed.ask("count", 8), text.length());
        due("read of " + text, fed.answer(new Call("read")), want);
        due("everything behind " + text, fed.and("read").everything(), standingWithoutText.everything());
    }

    /** The text, with ^ ahead of its first wrong place, is read to the FAULT there. */
    void fault(String marked) {
        int place = marked.indexOf('^');
        stays(marked.substring(0, place) + marked.substring(place + 1), -10 - place);
    }

    void size(String text) {
        stays(text, ProblemTexts.SIZE);
    }
}
