/** What the tests share: feeding whole texts, comparing answers, ending with an exit code. */
final class Check {
    private int done;
    private int wrong;

    void due(String call, long got, long want) {
        done++;
        if (got != want) {
            wrong++;
            System.out.println(call + " answered " + got + ", due is " + want);
        }
    }

    void due(String call, String got, String want) {
        done++;
        if (!got.equals(want)) {
            wrong++;
            System.out.println(call + " answered " + got + ", due is " + want);
        }
    }

    /** The text, with ^ ahead of its first wrong place, is read to the FAULT there. */
    void fault(String marked) {
        int place = marked.indexOf('^');
        String text = marked.substring(0, place) + marked.substring(place + 1);
        due("read of " + marked, read(new ProblemTexts(), text), -10 - place);
    }

    /** The text is read to that many ROWS, or to SIZE. */
    void rows(String text, int want) {
        due("read of " + text, read(new ProblemTexts(), text), want);
    }

    void end() {
        System.out.println(done + " answers, " + wrong + " not as due");
        if (wrong != 0 || done == 0) {
            System.exit(1);
        }
    }

    static void feed(ProblemTexts x, String text) {
        for (int from = 0; from < text.length(); from += 8) {
            int n = Math.min(8, text.length() - from);
            // the bytes above the n lowest are to be ignored, so they are not 0
            long w = -1;
            for (int i = from; i < from + n; i++) {
                w = w << 8 | text.charAt(i) & 255;
            }
            x.feed(n, w);
        }
    }

    static int read(ProblemTexts x, String text) {
        feed(x, text);
        return x.read();
    }

    static ProblemTexts model(String text) {
        ProblemTexts x = new ProblemTexts();
        int rows = read(x, text);
        if (rows < 0) {
            System.out.println("the test's own text is refused with " + rows + ": " + text);
            System.exit(1);
        }
        return x;
    }

    static String out(ProblemTexts x) {
        StringBuilder all = new StringBuilder();
        for (int i = 0; x.out(i) != ProblemTexts.NONE; i++) {
            all.append((char) x.out(i));
        }
        return all.toString();
    }

    static String name(ProblemTexts x, int sort, int k) {
        StringBuilder all = new StringBuilder();
        for (int i = 0; x.name(sort, k, i) != ProblemTexts.UNKNOWN; i++) {
            all.append((char) x.name(sort, k, i));
        }
        return all.toString();
    }

    /** All answers of the model, the point, THE TEXT's length and OUT, to see that nothing has changed. */
    static String state(ProblemTexts x) {
        StringBuilder all = new StringBuilder();
        for (int what = 0; what <= 9; what++) {
            all.append(x.count(what)).append(' ');
        }
        for (int sort = 0; sort <= 3; sort++) {
            for (int k = 0; k < x.count(sort); k++) {
                all.append(name(x, sort, k)).append(' ');
            }
        }
        for (int k = 0; k < x.count(0); k++) {
            all.append(x.set(k, 0)).append(' ').append(x.set(k, 1)).append(' ');
        }
        for (int column = 0; column < x.count(4); column++) {
            for (int what = 0; what <= 5; what++) {
                all.append(x.about(column, what)).append(' ');
            }
            all.append(x.price(column)).append(' ');
        }
        for (int row = 0; row < x.count(5); row++) {
            for (int what = 0; what <= 3; what++) {
                all.append(x.row(row, what)).append(' ');
            }
            for (int column = 0; column < x.count(4); column++) {
                all.append(x.factor(row, column)).append(' ');
            }
            all.append(x.right(row)).append(' ').append(x.left(row)).append(' ').append(x.holds(row)).append(' ');
        }
        return all.append(x.price(-1)).append(' ').append(x.worth()).append(' ').append(out(x)).toString();
    }
}
