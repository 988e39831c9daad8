/** Promise 2, feed: the n lowest bytes of w, the highest first, come behind THE TEXT: how many it has. */
public final class Promise02FeedTest {
    private static final int OUTSIDE = ProblemTexts.OUTSIDE, SIZE = ProblemTexts.SIZE;
    private static final String TEXT = "set s=1..3;data d[s]=4 5 6;rule abcd for i in s:i=d[i];";

    public static void main(String[] args) throws IllegalAccessException {
        Check.run(Promise02FeedTest.class);
    }

    static void theLowestBytesComeTheHighestFirst(Check check) {
        String want = Scene.model(TEXT).everything();
        for (int n = 1; n <= 8; n++) {
            Scene x = Scene.fresh();
            for (int from = 0; from < TEXT.length(); from += n) {
                String piece = TEXT.substring(from, Math.min(TEXT.length(), from + n));
                long bits = Scene.word(piece);
                int fed = Math.min(TEXT.length(), from + n);
                check.answers(x, fed, "feed", piece.length(), bits);
                x = x.and("feed", piece.length(), bits);
            }
            check.due("everything fed by " + n, x.and("read").everything(), want);
        }
    }

    static void theBytesAboveTheLowestArePassedOver(Check check) {
        check.answers(Scene.fresh().and("feed", 1, 0x40404040404020L), 0, "read");
        check.answers(Scene.fresh().and("feed", 1, -1L << 8 | 10), 0, "read");
        check.answers(Scene.fresh().and("feed", 1, 0x2040), -10, "read");
        check.answers(Scene.fresh().and("feed", 7, 0x4020202020202020L), 0, "read");
        check.answers(Scene.fresh().and("feed", 8, 0x4020202020202020L), -10, "read");
        check.answers(Scene.fresh().and("feed", 8, 0x2020202020202040L), -17, "read");
    }

    static void anyByteIsTaken(Check check) {
        for (int b = 0; b <= 255; b++) {
            check.answers(Scene.standing(), 9, "feed", 1, b);
        }
        check.answers(Scene.fresh().and("feed", 8, 0), -10, "read");
        check.answers(Scene.fresh().and("feed", 8, -1), -10, "read");
        check.answers(Scene.fresh().and("feed", 8, Long.MIN_VALUE), -10, "read");
        check.answers(Scene.fresh().and("feed", 2, 0x20a0), -11, "read");
        check.answers(Scene.fresh().and("feed", 2, 0x208a), -11, "read");
    }

    static void nOf1And8IsTaken(Check check) {
        check.answers(Scene.fresh(), 1, "feed", 1, 32);
        check.answers(Scene.fresh(), 8, "feed", 8, 32);
        check.answers(Scene.standing(), 9, "feed", 1, 32);
        check.answers(Scene.standing(), 16, "feed", 8, 32);
    }

    static void nBelow1IsOutside(Check check) {
        for (int n : new int[] {0, -1, -8, Check.LEAST}) {
            check.refuses(OUTSIDE, "feed", n, 0x3d313b);
            check.refuses(Scene.fresh(), OUTSIDE, "feed", n, 0x3d313b);
        }
    }

    static void nAbove8IsOutside(Check check) {
        for (int n : new int[] {9, 10, 64, 400, Check.MOST}) {
            check.refuses(OUTSIDE, "feed", n, 0x3d313b);
            check.refuses(Scene.fresh(), OUTSIDE, "feed", n, 0x3d313b);
        }
    }

    static void the400thByteIsTakenAndNoneBehindIt(Check check) {
        for (int n = 1; n <= 8; n++) {
            Scene fits = Scene.fresh().feed(" ".repeat(400 - n));
            check.answers(fits, 400, "feed", n, Scene.word("\n".repeat(n)));
            Scene full = fits.and("feed", n, Scene.word("\n".repeat(n)));
            check.answers(full, 400, "count", 8);
            check.refuses(full, SIZE, "feed", 1, 32);
            check.refuses(full, SIZE, "feed", 8, 32);
            Scene oneLess = Scene.fresh().feed(" ".repeat(400 - n + 1));
            check.refuses(oneLess, SIZE, "feed", n, Scene.word("\n".repeat(n)));
        }
    }

    static void aRefusedFeedLeavesRoomForLess(Check check) {
        Scene x = Scene.fresh().feed(" ".repeat(393)).and("feed", 8, 0x4040404040404040L);
        check.answers(x, 393, "count", 8);
        check.answers(x, 400, "feed", 7, 0x20202020202020L);
        check.answers(x.and("feed", 7, 0x20202020202020L), 0, "read");
    }

    static void sizeLeavesAModelAsItIs(Check check) {
        Scene full = Scene.standing().feed(" ".repeat(392));
        check.answers(full, 400, "count", 8);
        check.refuses(full, SIZE, "feed", 1, '=');
        check.refuses(full, SIZE, "feed", 8, '=');
    }

    static void outsideIsToldAheadOfSize(Check check) {
        Scene full = Scene.fresh().feed(" ".repeat(400));
        check.refuses(full, OUTSIDE, "feed", 0, 32);
        check.refuses(full, OUTSIDE, "feed", 9, 32);
        check.refuses(full, OUTSIDE, "feed", Check.MOST, 32);
        check.refuses(full, OUTSIDE, "feed", Check.LEAST, 32);
    }

    static void aTextThatWasTakenOrCutMakesRoom(Check check) {
        Scene full = Scene.fresh().feed(" ".repeat(400));
        check.answers(full.and("read"), 8, "feed", 8, 32);
        check.answers(full.and("cut", 0), 8, "feed", 8, 32);
        check.answers(full.and("cut", 399), 400, "feed", 1, 32);
        check.refuses(full.and("cut", 399), SIZE, "feed", 2, 32);
        check.answers(full.and("read").feed(" ".repeat(399)), 400, "feed", 1, 32);
    }

    static void theLastOf400BytesIsRead(Check check) {
        check.answers(Scene.fresh().feed(" ".repeat(399) + "@"), -10 - 399, "read");
        check.answers(Scene.fresh().feed(" ".repeat(397) + "set"), -10 - 400, "read");
        check.answers(Scene.fresh().feed(" ".repeat(389) + "rule r:1=1;"), 1, "read");
    }
}
