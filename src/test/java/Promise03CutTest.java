/** Promise 3, cut: THE TEXT keeps its first n bytes: how many go. */
public final class Promise03CutTest {
    private static final int OUTSIDE = ProblemTexts.OUTSIDE;

    public static void main(String[] args) throws IllegalAccessException {
        Check.run(Promise03CutTest.class);
    }

    static void howManyGo(Check check) {
        for (int n = 0; n <= 8; n++) {
            check.answers(Scene.standing(), 8 - n, "cut", n);
            check.answers(Scene.standing().and("cut", n), n, "count", 8);
        }
    }

    static void keepingAllOrNoneIsTaken(Check check) {
        check.refuses(0, "cut", 8);
        check.answers(Scene.standing(), 8, "cut", 0);
        check.answers(Scene.standing().and("cut", 0), 0, "read");
    }

    static void moreThanThereAreIsOutside(Check check) {
        for (int n : new int[] {9, 10, 400, 401, Check.MOST}) {
            check.refuses(OUTSIDE, "cut", n);
        }
    }

    static void lessThanNoneIsOutside(Check check) {
        for (int n : new int[] {-1, -8, Check.LEAST}) {
            check.refuses(OUTSIDE, "cut", n);
            check.refuses(Scene.fresh(), OUTSIDE, "cut", n);
        }
    }

    static void anEmptyTextKeepsNone(Check check) {
        Scene x = Scene.standing().and("cut", 0);
        check.refuses(x, 0, "cut", 0);
        check.refuses(x, OUTSIDE, "cut", 1);
        check.refuses(x, OUTSIDE, "cut", -1);
        check.refuses(Scene.standing().and("read"), OUTSIDE, "cut", 1);
        check.refuses(Scene.standing().and("read"), 0, "cut", 0);
    }

    static void aFullTextKeepsAll(Check check) {
        Scene full = Scene.fresh().feed(" ".repeat(399) + "@");
        check.refuses(full, 0, "cut", 400);
        check.refuses(full, OUTSIDE, "cut", 401);
        check.answers(full, 1, "cut", 399);
        check.answers(full, 400, "cut", 0);
        check.answers(full.and("cut", 400), -409, "read");
        check.answers(full.and("cut", 399), 0, "read");
    }

    static void theFirstBytesAreKept(Check check) {
        Scene x = Scene.fresh().feed("set s=1..3;@@@");
        check.answers(x.and("cut", 11), 0, "read");
        check.answers(x.and("cut", 11).and("read"), 3, "set", 0, 0);
        check.answers(x.and("cut", 12), -21, "read");
        check.answers(x.and("cut", 10), -20, "read");
    }

    static void moreBytesComeBehindWhatIsKept(Check check) {
        Scene x = Scene.fresh().feed("set s=1..3;@@@").and("cut", 9).feed("2;set t=0..0;");
        check.answers(x, 22, "count", 8);
        check.answers(x, 0, "read");
        check.answers(x.and("read"), 2, "count", 0);
        check.answers(x.and("read"), 2, "set", 0, 0);
    }

    static void onlyTheTextIsCut(Check check) {
        String want = Scene.standing().and("read").everything();
        check.due("everything behind cut and read", Scene.standing().feed("abc").and("cut", 8).and("read").everything(),
                want);
        Scene cut = Scene.standing().and("cut", 0);
        for (int what = 0; what <= 9; what++) {
            check.answers(cut, what == 8 ? 0 : Scene.standing().ask("count", what), "count", what);
        }
        check.answers(cut, 4, "about", 0, 5);
        check.due("OUT behind cut(0)", cut.out(), Scene.standing().out());
    }
}
