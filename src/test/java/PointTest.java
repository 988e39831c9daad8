/** Promises 15 to 19: put, left, holds, broken, worth. */
public final class PointTest {
    private static final int NONE = ProblemTexts.NONE, UNKNOWN = ProblemTexts.UNKNOWN;
    private static final int OUTSIDE = ProblemTexts.OUTSIDE, STATE = ProblemTexts.STATE;
    private static final String TEXT = "var x in -2..3;var y in 1..9999;rule a:2*x-y<=-4;rule b:x=0;rule d:x+y>=4;"
            + "rule e:0>=1;goal min 3*x-y+10;";

    public static void main(String[] args) {
        Check check = new Check();
        put(check);
        left(check);
        holds(check);
        broken(check);
        worth(check);
        runningOver(check);
        check.end();
    }

    private static void put(Check check) {
        ProblemTexts x = Check.model(TEXT);
        check.due("put(0, 3)", x.put(0, 3), -2);
        check.due("put(0, -2)", x.put(0, -2), 3);
        check.due("put(0, -3)", x.put(0, -3), OUTSIDE);
        check.due("put(0, 4)", x.put(0, 4), OUTSIDE);
        check.due("put(0, least)", x.put(0, Integer.MIN_VALUE), OUTSIDE);
        check.due("put(0, most)", x.put(0, Integer.MAX_VALUE), OUTSIDE);
        check.due("about(0, 5)", x.about(0, 5), -2);
        check.due("put(1, 9999)", x.put(1, 9999), 1);
        check.due("put(1, 0)", x.put(1, 0), OUTSIDE);
        check.due("about(1, 5)", x.about(1, 5), 9999);
        check.due("put(2, 0)", x.put(2, 0), UNKNOWN);
        check.due("put(-1, 0)", x.put(-1, 0), UNKNOWN);
        check.due("UNKNOWN is ahead of OUTSIDE", x.put(2, 99999), UNKNOWN);
        check.due("read anew", Check.read(x, TEXT), 4);
        check.due("the point is at the lower ends", x.about(1, 5), 1);
    }

    private static void left(Check check) {
        ProblemTexts x = Check.model(TEXT);
        check.due("left(0)", x.left(0), -5);
        check.due("left(1)", x.left(1), -2);
        check.due("left(2)", x.left(2), -1);
        check.due("left(3)", x.left(3), 0);
        x.put(0, 3);
        x.put(1, 7);
        check.due("left(0) at 3, 7", x.left(0), -1);
        check.due("left(1) at 3, 7", x.left(1), 3);
        check.due("left(2) at 3, 7", x.left(2), 10);
        check.due("left(4)", x.left(4), UNKNOWN);
        check.due("left(-1)", x.left(-1), UNKNOWN);
    }

    private static void holds(Check check) {
        ProblemTexts x = Check.model(TEXT);
        check.due("-5 <= -4", x.holds(0), 1);
        check.due("-2 = 0", x.holds(1), 0);
        check.due("-1 >= 4", x.holds(2), 0);
        check.due("0 >= 1", x.holds(3), 0);
        x.put(0, 0);
        x.put(1, 4);
        check.due("-4 <= -4", x.holds(0), 1);
        check.due("0 = 0", x.holds(1), 1);
        check.due("4 >= 4", x.holds(2), 1);
        x.put(0, 1);
        check.due("-2 <= -4", x.holds(0), 0);
        check.due("1 = 0", x.holds(1), 0);
        check.due("5 >= 4", x.holds(2), 1);
        check.due("holds(4)", x.holds(4), UNKNOWN);
        check.due("holds(-1)", x.holds(-1), UNKNOWN);
    }

    private static void broken(Check check) {
        ProblemTexts x = Check.model(TEXT);
        check.due("broken(0)", x.broken(0), 1);
        check.due("broken(1)", x.broken(1), 2);
        check.due("broken(2)", x.broken(2), 3);
        check.due("broken(3)", x.broken(3), NONE);
        check.due("broken(most)", x.broken(Integer.MAX_VALUE), NONE);
        check.due("broken(-1)", x.broken(-1), UNKNOWN);
        check.due("broken(least)", x.broken(Integer.MIN_VALUE), UNKNOWN);
        x.put(0, 0);
        x.put(1, 4);
        check.due("broken(0) at 0, 4", x.broken(0), 3);
        check.due("broken(1) at 0, 4", x.broken(1), NONE);
        x.put(0, 1);
        check.due("broken(0) at 1, 4", x.broken(0), 0);
        check.due("broken(1) at 1, 4", x.broken(1), 1);
        check.due("broken(2) at 1, 4", x.broken(2), 3);
        check.due("broken(-1) without rows", new ProblemTexts().broken(-1), UNKNOWN);
    }

    private static void worth(Check check) {
        ProblemTexts x = Check.model(TEXT);
        check.due("worth()", x.worth(), 3);
        x.put(0, 2);
        check.due("worth() at 2, 1", x.worth(), 15);
        check.due("worth() of a number", Check.model("goal max 2-5;").worth(), -3);
        check.due("worth() without a goal", Check.model("var x in 1..2;").worth(), STATE);
        Check.read(x, "var x in 1..2;");
        check.due("worth() when the goal has gone", x.worth(), STATE);
    }

    private static void runningOver(Check check) {
        // 8^20 * 4 is 2^62; twice that is below 0
        ProblemTexts x = Check.model("var x in 0..9;rule r:4*x" + "*8".repeat(20) + ">=0;rule q:x"
                + "*8".repeat(21) + "<=-1;");
        x.put(0, 1);
        check.due("2^62 >= 0", x.holds(0), 1);
        check.due("-2^63 <= -1", x.holds(1), 1);
        x.put(0, 2);
        check.due("left(0) at 2", x.left(0), Long.MIN_VALUE);
        check.due("-2^63 >= 0", x.holds(0), 0);
        check.due("left(1) at 2", x.left(1), 0);
        check.due("0 <= -1", x.holds(1), 0);
    }
}
