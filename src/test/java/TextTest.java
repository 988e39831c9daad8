/** Promises 1 to 3: a new object, feed, cut. */
public final class TextTest {
    private static final int UNKNOWN = ProblemTexts.UNKNOWN, OUTSIDE = ProblemTexts.OUTSIDE;
    private static final int STATE = ProblemTexts.STATE, SIZE = ProblemTexts.SIZE;

    public static void main(String[] args) {
        Check check = new Check();
        aNewObject(check);
        feed(check);
        feedUpToTheLimit(check);
        cut(check);
        check.end();
    }

    private static void aNewObject(Check check) {
        ProblemTexts x = new ProblemTexts();
        for (int what = 0; what <= 9; what++) {
            check.due("new: count(" + what + ")", x.count(what), 0);
        }
        check.due("new: name(0, 0, 0)", x.name(0, 0, 0), UNKNOWN);
        check.due("new: set(0, 0)", x.set(0, 0), UNKNOWN);
        check.due("new: data(0, 0, 0)", x.data(0, 0, 0), UNKNOWN);
        check.due("new: column(0, 0, 0)", x.column(0, 0, 0), UNKNOWN);
        check.due("new: about(0, 0)", x.about(0, 0), UNKNOWN);
        check.due("new: row(0, 0)", x.row(0, 0), UNKNOWN);
        check.due("new: factor(0, 0)", x.factor(0, 0), UNKNOWN);
        check.due("new: right(0)", x.right(0), UNKNOWN);
        check.due("new: price(0)", x.price(0), UNKNOWN);
        check.due("new: price(-1)", x.price(-1), STATE);
        check.due("new: put(0, 0)", x.put(0, 0), UNKNOWN);
        check.due("new: left(0)", x.left(0), UNKNOWN);
        check.due("new: holds(0)", x.holds(0), UNKNOWN);
        check.due("new: broken(0)", x.broken(0), ProblemTexts.NONE);
        check.due("new: worth()", x.worth(), STATE);
        check.due("new: print(0)", x.print(0), UNKNOWN);
        check.due("new: out(0)", x.out(0), ProblemTexts.NONE);
        check.due("new: cut(0)", x.cut(0), 0);
        check.due("new: read()", x.read(), 0);
    }

    private static void feed(Check check) {
        ProblemTexts x = new ProblemTexts();
        check.due("feed(0, 1)", x.feed(0, 1), OUTSIDE);
        check.due("feed(9, 1)", x.feed(9, 1), OUTSIDE);
        check.due("feed(-1, 1)", x.feed(-1, 1), OUTSIDE);
        check.due("feed(least, 1)", x.feed(Integer.MIN_VALUE, 1), OUTSIDE);
        check.due("feed(most, 1)", x.feed(Integer.MAX_VALUE, 1), OUTSIDE);
        check.due("refused feeds leave the text", x.count(8), 0);
        // "set s=1.", then ".3;" under bytes that don't count
        check.due("feed(8, ..)", x.feed(8, 0x73657420733d312eL), 8);
        check.due("feed(3, ..)", x.feed(3, 0x73657420732e333bL), 11);
        check.due("count(8)", x.count(8), 11);
        check.due("read()", x.read(), 0);
        check.due("set(0, 0)", x.set(0, 0), 3);
        check.due("set(0, 1)", x.set(0, 1), 1);
        check.due("read takes the text", x.count(8), 0);
        // a byte above 127, the highest one of a negative w
        check.due("feed(8, -1)", x.feed(8, -1L), 8);
        check.due("read() of bytes 255", x.read(), -10);
        check.due("read() has taken them", x.count(8), 0);
    }

    private static void feedUpToTheLimit(Check check) {
        ProblemTexts x = new ProblemTexts();
        for (int i = 1; i <= 49; i++) {
            check.due("feed " + i, x.feed(8, 0x2020202020202020L), 8 * i);
        }
        check.due("feed(1, blank)", x.feed(1, 32), 393);
        check.due("feed(8, ..) beyond the limit", x.feed(8, 0x4040404040404040L), SIZE);
        check.due("count(8)", x.count(8), 393);
        check.due("OUTSIDE is ahead of SIZE", x.feed(9, 0), OUTSIDE);
        check.due("feed(7, ..) to the limit", x.feed(7, 0x0a0a0a0a0a0a0aL), 400);
        check.due("feed(1, ..) beyond it", x.feed(1, 32), SIZE);
        check.due("feed(0, ..) at it", x.feed(0, 32), OUTSIDE);
        check.due("count(8)", x.count(8), 400);
        check.due("400 blanks are read", x.read(), 0);
        check.due("count(8)", x.count(8), 0);
    }

    private static void cut(Check check) {
        ProblemTexts x = new ProblemTexts();
        check.due("cut(1) of none", x.cut(1), OUTSIDE);
        check.due("cut(-1) of none", x.cut(-1), OUTSIDE);
        Check.feed(x, "set s = 0 .. 1;rule");
        check.due("cut(20)", x.cut(20), OUTSIDE);
        check.due("cut(-1)", x.cut(-1), OUTSIDE);
        check.due("cut(most)", x.cut(Integer.MAX_VALUE), OUTSIDE);
        check.due("cut(least)", x.cut(Integer.MIN_VALUE), OUTSIDE);
        check.due("cut(19)", x.cut(19), 0);
        check.due("cut(15)", x.cut(15), 4);
        check.due("count(8)", x.count(8), 15);
        check.due("cut(15) again", x.cut(15), 0);
        Check.feed(x, "set t = 3 .. 3;");
        check.due("read()", x.read(), 0);
        check.due("count(0)", x.count(0), 2);
        Check.feed(x, "@@@");
        check.due("cut(0)", x.cut(0), 3);
        check.due("read() of nothing", x.read(), 0);
        check.due("count(0) of nothing", x.count(0), 0);
    }
}
