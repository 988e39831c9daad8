/**
 * Promise 14, count: 0 sets, 1 data, 2 vars, 3 rules, 4 COLUMNS, 5 ROWS, 6 WORK, 7 the goal: 0 none, 1 min, 2 max,
 * 8 bytes of THE TEXT, 9 of OUT. UNKNOWN.
 */
public final class Promise14CountTest {
    private static final int UNKNOWN = ProblemTexts.UNKNOWN;

    public static void main(String[] args) throws IllegalAccessException {
        Check.run(Promise14CountTest.class);
    }

    private static String many(String declaration, int times) {
        StringBuilder text = new StringBuilder();
        for (int i = 0; i < times; i++) {
            text.append(declaration.replace('@', (char) ('a' + i)));
        }
        return text.toString();
    }

    static void whatIs0To9(Check check) {
        long[] want = {1, 1, 2, 2, 3, 3, 2 * 2 + 3 + 4, 2, 8, 14};
        for (int what = 0; what <= 9; what++) {
            check.answers(Scene.standing(), want[what], "count", what);
        }
        for (int what : new int[] {-1, 10, 11, Check.LEAST, Check.MOST}) {
            check.refuses(UNKNOWN, "count", what);
            check.refuses(Scene.fresh(), UNKNOWN, "count", what);
        }
    }

    static void what0IsUpTo6Sets(Check check) {
        for (int i = 0; i <= 6; i++) {
            check.answers(Scene.model(many("set @=1..0;", i)), i, "count", 0);
        }
    }

    static void what1IsUpTo6Data(Check check) {
        for (int i = 0; i <= 6; i++) {
            check.answers(Scene.model(many("data @=1;", i)), i, "count", 1);
        }
        check.answers(Scene.model("set s=1..3;data d[s]=1 2 3;"), 1, "count", 1);
    }

    static void what2IsUpTo6Vars(Check check) {
        for (int i = 0; i <= 6; i++) {
            check.answers(Scene.model(many("var @ in 0..1;", i)), i, "count", 2);
        }
        check.answers(Scene.model("set s=1..3;var x[s] in 0..1;"), 1, "count", 2);
    }

    static void what3IsUpTo10Rules(Check check) {
        for (int i = 0; i <= 10; i++) {
            check.answers(Scene.model(many("rule @:1=1;", i)), i, "count", 3);
        }
        check.answers(Scene.model("set s=1..3;rule r for i in s:1=1;"), 1, "count", 3);
    }

    static void what4IsUpTo40Columns(Check check) {
        String s = "set s=1..8;set t=1..5;set e=1..0;";
        check.answers(Scene.model(s + "var x[e] in 0..1;"), 0, "count", 4);
        check.answers(Scene.model(s + "var x in 0..1;"), 1, "count", 4);
        check.answers(Scene.model(s + "var x[s] in 0..1;"), 8, "count", 4);
        check.answers(Scene.model(s + "var x[t,s] in 0..1;"), 40, "count", 4);
    }

    static void what5IsUpTo40Rows(Check check) {
        String s = "set s=1..8;set t=1..5;set e=1..0;";
        check.answers(Scene.model(s + "rule x for i in e:1=1;"), 0, "count", 5);
        check.answers(Scene.model(s + "rule x:1=1;"), 1, "count", 5);
        check.answers(Scene.model(s + "rule x for i in s:1=1;"), 8, "count", 5);
        check.answers(Scene.model(s + "rule x for i in s,j in t:1=1;"), 40, "count", 5);
    }

    static void what6IsUpTo20000Work(Check check) {
        check.answers(Scene.model("set s=1..2;var x[s] in 0..1;"), 0, "count", 6);
        check.answers(Scene.model("goal min 1;"), 1, "count", 6);
        // 1 + 8 * (1 + 64 * 38), 1 + 8 * 66, and 6 more
        check.answers(Scene.model("set s=0..7;goal min sum(i in s:sum(j in s,k in s:1" + "+1".repeat(37)
                + "))+sum(a in s:1" + "+1".repeat(65) + ")" + "+1".repeat(6) + ";"), 20000, "count", 6);
    }

    static void what7IsTheGoal(Check check) {
        check.answers(Scene.model("rule r:1=1;"), 0, "count", 7);
        check.answers(Scene.model("goal min 1;"), 1, "count", 7);
        check.answers(Scene.model("goal max 1;"), 2, "count", 7);
        check.answers(Scene.model("goal max 1;").feed("goal min 1;").and("read"), 1, "count", 7);
        check.answers(Scene.model("goal max 1;").and("read"), 0, "count", 7);
        check.answers(Scene.model("goal max 1;").feed("goal min 1;goal").and("read"), 2, "count", 7);
    }

    static void what8IsUpTo400Bytes(Check check) {
        for (int bytes : new int[] {0, 1, 7, 8, 9, 399, 400}) {
            check.answers(Scene.fresh().feed(" ".repeat(bytes)), bytes, "count", 8);
        }
        check.answers(Scene.fresh().feed(" ".repeat(400)).and("feed", 1, 32), 400, "count", 8);
        check.answers(Scene.fresh().feed(" ".repeat(400)).and("cut", 399), 399, "count", 8);
        check.answers(Scene.fresh().feed(" ".repeat(400)).and("read"), 0, "count", 8);
    }

    static void what9IsTheBytesOfOut(Check check) {
        Scene x = Scene.model("rule r:1=1;rule abcd:1<=9999;");
        check.answers(x, 0, "count", 9);
        check.answers(x.and("print", 0), 9, "count", 9);
        check.answers(x.and("print", 1), 16, "count", 9);
        check.answers(x.and("print", 1).and("print", 0), 9, "count", 9);
        check.answers(x.and("print", 1).and("print", 2), 16, "count", 9);
        check.answers(x.and("print", 1).and("read"), 16, "count", 9);
    }

    static void aRefusedTextCountsNothing(Check check) {
        String[] refused = {"set a=0..1;set b=0..1;data c=1;data d=1;var f in 0..1;rule g:1=1;goal min 1;@",
            "set a=0..7;set b=0..1;data c=1;data d=1;var f[a,a] in 0..1;rule g:1=1;goal min 1;"};
        for (String text : refused) {
            Scene x = Scene.standing().and("cut", 0).feed(text).and("read");
            for (int what = 0; what <= 7; what++) {
                check.answers(x, Scene.standing().ask("count", what), "count", what);
            }
        }
    }
}
