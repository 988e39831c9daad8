/** Promise 21, out: byte i of OUT; NONE. */
public final class Promise21OutTest {
    private static final int NONE = ProblemTexts.NONE;

    public static void main(String[] args) throws IllegalAccessException {
        Check.run(Promise21OutTest.class);
    }

    static void eachByte(Check check) {
        String want = "r: x[2] <= -4;";
        for (int i = 0; i < want.length(); i++) {
            check.answers(Scene.standing(), want.charAt(i), "out", i);
        }
    }

    static void noneBehindTheLast(Check check) {
        check.answers(Scene.standing(), ';', "out", 13);
        for (int i : new int[] {14, 15, 400, 1570, 1571, 1572, Check.MOST}) {
            check.refuses(NONE, "out", i);
        }
    }

    static void noneAheadOfTheFirst(Check check) {
        check.answers(Scene.standing(), 'r', "out", 0);
        for (int i : new int[] {-1, -2, Check.LEAST}) {
            check.refuses(NONE, "out", i);
        }
    }

    static void noneOfAnEmptyOut(Check check) {
        for (int i : new int[] {-1, 0, 1, Check.LEAST, Check.MOST}) {
            check.refuses(Scene.fresh(), NONE, "out", i);
            check.refuses(Scene.model("rule r:1=1;"), NONE, "out", i);
        }
    }

    static void noneOfALongerOneThatWas(Check check) {
        Scene x = Scene.model("var x in 0..1;rule r:x<=1;rule long:x>=1;").and("print", 1).and("print", 0);
        check.answers(x, ';', "out", 9);
        check.answers(x, NONE, "out", 10);
        check.answers(x, NONE, "out", 12);
    }

    static void outStaysUntilTheNextPrint(Check check) {
        Scene[] later = {Scene.standing().and("read"), Scene.standing().and("cut", 0).and("read"),
            Scene.standing().feed("=2;").and("read"), Scene.standing().and("print", 3), Scene.standing().and("put", 0, 1),
            Scene.standing().and("cut", 0).feed("set s=1..8;var x[s,s] in 0..1;").and("read")};
        for (Scene scene : later) {
            check.due("OUT", scene.out(), "r: x[2] <= -4;");
            check.answers(scene, 14, "count", 9);
        }
    }

    static void theLastByteOfTheLongestRow(Check check) {
        String least = Check.LEAST_LONG;
        Scene x = Scene.model("set s=9992..9999;set t=9995..9999;var xxxx[s,t] in 0..1;"
                + "rule rrrr:sum(i in s,j in t:xxxx[i,j])*" + least + "<=" + least + ";").and("print", 0);
        int bytes = 6 + 36 + 39 * 38 + 4 + 20 + 1;
        check.answers(x, bytes, "count", 9);
        check.answers(x, '8', "out", bytes - 2);
        check.answers(x, ';', "out", bytes - 1);
        check.answers(x, NONE, "out", bytes);
    }
}
