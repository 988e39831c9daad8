/** Promise 4, read: THE TEXT (taken) is THE MODEL: how many ROWS; or a FAULT, or SIZE: THE MODEL stays. */
public final class Promise04ReadTest {
    private static final int UNKNOWN = ProblemTexts.UNKNOWN, STATE = ProblemTexts.STATE, SIZE = ProblemTexts.SIZE;

    public static void main(String[] args) throws IllegalAccessException {
        Check.run(Promise04ReadTest.class);
    }

    static void howManyRows(Check check) {
        check.rows("", 0);
        check.rows("set s=1..2;", 0);
        check.rows("rule r:1=1;", 1);
        check.rows("set s=1..8;set t=1..5;rule r for i in s,j in t:i=j;", 40);
        check.rows("set s=1..0;rule r for i in s:1=1;", 0);
    }

    static void theTextIsTakenWhenItIsRight(Check check) {
        Scene x = Scene.standing().and("cut", 0).feed("rule r:1=1;");
        check.answers(x, 1, "read");
        check.answers(x.and("read"), 0, "count", 8);
        check.answers(x.and("read"), 0, "read");
        check.answers(x.and("read"), 1, "feed", 1, ' ');
    }

    static void theTextIsTakenWhenItHasAFault(Check check) {
        Scene x = Scene.standing();
        check.answers(x, -18, "read");
        check.answers(x.and("read"), 0, "count", 8);
        check.answers(x.and("read"), 0, "read");
        check.answers(x.and("read"), 1, "feed", 1, ' ');
        check.answers(x.and("read").feed("rule r:1=1;"), 1, "read");
    }

    static void theTextIsTakenWhenItIsTooLarge(Check check) {
        Scene x = Scene.standing().and("cut", 0).feed("set s=1..8;var x[s,s] in 0..1;");
        check.answers(x, SIZE, "read");
        check.answers(x.and("read"), 0, "count", 8);
        check.answers(x.and("read"), 0, "read");
        check.answers(x.and("read"), 1, "feed", 1, ' ');
    }

    static void theModelStaysBehindAFault(Check check) {
        check.fault("^@");
        check.fault("set^");
        check.fault("set t=0..1;data e=1;var q in 0..1;rule w:q=1;goal min q;^x");
        check.fault("var q in 7..9;rule w:q=1;goal min q;^goal");
        check.fault("rule r:1=1;rule q:2^");
        check.fault("set s=3..4;set ^s=5..6;");
    }

    static void theModelStaysBehindSize(Check check) {
        check.size("set s=0..7;data e=1;var y[s,s] in 0..1;goal min y[0,0];");
        check.size("set s=0..7;var q in 7..9;rule w for i in s,j in s:q=1;");
        check.size("set s=0..7;var q in 7..9;goal min sum(i in s,j in s:sum(k in s,l in s:q+q+q+q+q));");
    }

    static void thePointStaysUnlessAModelIsRead(Check check) {
        Scene x = Scene.standing();
        check.answers(x, 4, "about", 0, 5);
        check.answers(x.and("read"), 4, "about", 0, 5);
        check.answers(x.and("cut", 0).feed("var x in -7..5;").and("read"), -7, "about", 0, 5);
    }

    static void theModelStaysBehindManyRefusedTexts(Check check) {
        Scene x = Scene.standing().and("cut", 0);
        String want = x.everything();
        for (int i = 0; i < 20; i++) {
            x = x.feed(i % 2 == 0 ? "rule x:1=2;rule y:2" : "set z=0..7;var a[z,z] in 0..1;").and("read");
        }
        check.due("everything", x.everything(), want);
    }

    static void anEmptyTextIsAModelOfNothing(Check check) {
        Scene x = Scene.standing().and("cut", 0).and("read");
        for (int what = 0; what <= 8; what++) {
            check.answers(x, 0, "count", what);
        }
        check.refuses(x, UNKNOWN, "name", 0, 0, 0);
        check.refuses(x, UNKNOWN, "set", 0, 0);
        check.refuses(x, UNKNOWN, "data", 0, 1, 0);
        check.refuses(x, UNKNOWN, "column", 0, 1, 0);
        check.refuses(x, UNKNOWN, "about", 0, 0);
        check.refuses(x, UNKNOWN, "row", 0, 0);
        check.refuses(x, UNKNOWN, "right", 0);
        check.refuses(x, STATE, "price", -1);
        check.refuses(x, STATE, "worth");
    }

    static void outStaysWhenAModelIsRead(Check check) {
        String want = "r: x[2] <= -4;";
        check.due("OUT ahead of it", Scene.standing().out(), want);
        check.due("OUT behind nothing", Scene.standing().and("cut", 0).and("read").out(), want);
        check.due("OUT behind a model", Scene.standing().feed("=2;").and("read").out(), want);
    }

    static void nothingOfTheLastModelIsLeft(Check check) {
        Scene last = Scene.model("set s=1..3;data c[s]=3 -4 5;var x[s] in -1..5;var y in 2..3;"
                + "rule r for i in s:x[i]<=c[i]+y;rule q:y-x[1]>=2;goal max x[1]+2*y-9;");
        String[] texts = {"", "var x in 1..2;rule b:x=2;", "set s=1..1;data c[s]=7;", "goal min 1;", "rule r:0=1;",
            "set s=1..2;data c[s]=3 -4;var x[s] in -1..5;var y in 2..3;rule r for i in s:x[i]<=c[i];"};
        for (String text : texts) {
            String later = last.and("put", 0, 4).feed(text).and("read").everything();
            check.due("everything behind " + text, later, Scene.model(text).everything());
        }
    }

    /** Texts with things of all sorts, read in turn, each as if it were the first. */
    static void manyTextsAreReadInTurn(Check check) {
        String[] texts = {"set s=1..3;set t=0..1;data c[s]=3 -4 5;data d=9;var x[s] in -1..5;var y in 2..3;"
            + "rule r for i in s:x[i]<=c[i]+y;rule q:y-x[1]>=2;goal max x[1]+2*y-9;",
            "set t=4..4;data e[t]=6;var z[t] in 1..2;rule p for i in t:z[i]=e[i];goal min z[4]-1;", "rule w:1=2;",
            "data f=7;var v in 0..8;goal min f*v;", ""};
        Scene x = Scene.fresh();
        for (int i = 0; i < 3 * texts.length; i++) {
            String text = texts[i % texts.length];
            x = x.feed(text).and("read");
            check.due("everything behind " + text, x.everything(), Scene.model(text).everything());
        }
    }

    /** Wherever a text ends too early, the next one is read as if it had not been. */
    static void aRightTextIsReadBehindARefusedOne(Check check) {
        String whole = "set s=1..3;set t=2..3;data c[s]=3 -4 5;data d[t,t]=1 2 3 4;var x[s] in -1..5;var y in 2..3;"
                + "rule r for i in s,j in t:x[i]<=sum(k in t:d[k,j]*(c[k]+y))-j;goal max sum(i in s:(x[i]))+2*y-9;";
        String next = "set t=1..2;data d[t]=8 9;var k in 4..6;var r in 0..1;rule c:k=d[2];"
                + "rule i for j in t:sum(s in t:s*k)>=d[j]*r;goal min k;";
        String want = Scene.model(next).everything();
        String two = Scene.model(next).feed(next).and("read").everything();
        check.due("a text that is read twice", two, want);
        for (int bytes = 0; bytes < whole.length(); bytes++) {
            Scene x = Scene.fresh().feed(whole.substring(0, bytes) + "@").and("read").feed(next).and("read");
            check.due("everything behind " + bytes + " bytes", x.everything(), want);
        }
    }

    static void sizeLeavesNothingForTheNextText(Check check) {
        String large = "set s=1..8;data c[s]=1 2 3 4 5 6 7 8;var x[s,s] in -1..5;rule r for i in s,j in s:x[i,j]<=c[i];"
                + "goal max sum(i in s:x[i,i]);";
        String next = "set t=1..2;data d[t]=8 9;var k in 4..6;rule c for i in t:k=d[i];";
        Scene x = Scene.fresh();
        for (int i = 0; i < 8; i++) {
            x = x.feed(large).and("read");
            check.due("everything", x.feed(next).and("read").everything(), Scene.model(next).everything());
        }
    }

    static void aTextIsReadAnew(Check check) {
        String text = "set s=1..2;var x[s] in 0..3;rule r for i in s:2*x[i]>=i;goal min x[1];";
        Scene once = Scene.model(text);
        Scene twice = once.and("put", 1, 3).feed(text).and("read");
        check.due("everything", twice.everything(), once.everything());
        Scene between = once.feed("rule w:1=1;").and("read").feed(text).and("read");
        check.due("everything behind another", between.everything(), once.everything());
    }
}
