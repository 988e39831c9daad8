/** Promise 4 and the SIZES: COLUMNS, ROWS, WORK at their limits; a FAULT is told ahead of SIZE. */
public final class SizeTest {
    private static final int SIZE = ProblemTexts.SIZE;

    public static void main(String[] args) {
        Check check = new Check();
        columns(check);
        rows(check);
        work(check);
        emptySets(check);
        modelStays(check);
        check.end();
    }

    private static void columns(Check check) {
        String s = "set s=1..8;set t=1..5;";
        check.rows(s + "var x[s,t] in 0..1;", 0);
        check.rows(s + "var x[s,t] in 0..1;var y in 0..1;", SIZE);
        check.rows(s + "var x[s,s] in 0..1;", SIZE);
        check.rows(s + "var a[s] in 0..1;var b[s] in 0..1;var c[s] in 0..1;var d[s] in 0..1;var e[s] in 0..1;", 0);
        check.rows(s + "var a[s] in 0..1;var b[s] in 0..1;var c[s] in 0..1;var d[s] in 0..1;var e[s] in 0..1;"
                + "var f in 0..1;", SIZE);
        check.fault(s + "var x[s,s] in 0..1;^x");
        check.rows(s + "data d[s,s]=" + "1 ".repeat(64) + ";", 0);
    }

    private static void rows(Check check) {
        String s = "set s=1..8;set t=1..5;";
        check.rows(s + "rule r for i in s,j in t:i=j;", 40);
        check.rows(s + "rule r for i in s,j in t:i=j;rule q:1=1;", SIZE);
        check.rows(s + "rule q:1=1;rule r for i in s,j in t:i=j;", SIZE);
        check.rows(s + "rule r for i in s,j in s:i=j;", SIZE);
        check.fault(s + "rule r for i in s,j in s:i=j;^r");
    }

    private static void work(Check check) {
        check.due("WORK of a number", workOf("goal min 1;"), 1);
        check.due("WORK of -1", workOf("goal min -1;"), 1);
        check.due("WORK of brackets", workOf("goal min ((1)*2)+3;"), 5);
        check.due("WORK of a sum", workOf("set s=1..3;goal min sum(i in s:i+2);"), 7);
        check.due("WORK of two indices", workOf("set s=1..3;set t=1..2;goal min sum(i in s,j in t:i*j*4);"), 19);
        check.due("WORK of a var", workOf("set s=1..3;var x[s,s] in 0..1;goal min x[1,2];"), 1);
        check.due("WORK of a rule", workOf("rule r:1+2=3*(4);"), 5);
        check.due("WORK of rows", workOf("set s=1..3;set t=1..2;rule r for i in s,j in t:1+2=3*(4);"), 30);
        check.due("WORK together", workOf("rule r:1=1;rule q:1=(1);goal min 7;"), 6);
        check.due("WORK inside a sum", workOf("set s=1..3;goal min sum(i in s:(1)+sum(j in s:2));"), 1 + 3 * (2 + 4));
        // nearly all of the WORK in few bytes, the rest by a smaller sum and single numbers
        String deep = "set s=0..7;goal min sum(i in s:sum(j in s,k in s:1" + "+1".repeat(37) + "))";
        int inner = 1 + 8 * (1 + 64 * 38);
        check.due("WORK of the deep sum", workOf(deep + ";"), inner);
        String filled = deep + "+sum(a in s:1" + "+1".repeat(65) + ")";
        int sum = inner + 1 + 8 * 66;
        check.due("WORK of the filled sum", workOf(filled + ";"), sum);
        String atLimit = filled + "+1".repeat(20000 - sum);
        check.due("bytes of the text at the limit", atLimit.length() + 3 <= 400 ? 1 : 0, 1);
        check.due("WORK at the limit", workOf(atLimit + ";"), 20000);
        check.rows(atLimit + "+1;", SIZE);
        check.rows(atLimit + "*1;", SIZE);
        check.fault(atLimit + "*1^:");
        manySums(check);
    }

    private static void manySums(Check check) {
        StringBuilder text = new StringBuilder("set s=0..7;rule r for x in s,y in s:");
        for (char c = 'a'; c < 'q'; c += 2) {
            text.append("sum(").append(c).append(" in s,").append((char) (c + 1)).append(" in s:");
        }
        text.append("1))))))))");
        check.rows(text + "=1;", SIZE);
        check.rows(text.toString().replace("0..7", "1..0") + "=1;", 0);
        check.rows("set s=0..7;goal min sum(i in s,j in s:sum(k in s,l in s:sum(m in s:i)));", SIZE);
        // 64 * 64 * 64 * 64 times nothing is no work
        check.due("WORK around an empty set", workOf("set s=0..7;set e=1..0;goal min sum(z in e:sum(a in s,b in s:"
                + "sum(c in s,d in s:sum(f in s,g in s:sum(h in s,i in s:1)))));"), 1);
    }

    private static int workOf(String text) {
        return Check.model(text).count(6);
    }

    private static void emptySets(Check check) {
        ProblemTexts x = Check.model("set e=3..2;set s=0..1;var a[e,s] in 0..1;var b[s] in 2..3;var c[s,e] in 0..1;"
                + "rule p for i in e:1=1;rule q for i in s:b[i]=sum(j in e:c[i,j]);rule r for i in s,j in e:1=1;");
        check.due("columns", x.count(4), 2);
        check.due("rows", x.count(5), 2);
        check.due("var of column 0", x.about(0, 0), 1);
        check.due("var of column 1", x.about(1, 0), 1);
        check.due("rule of row 1", x.row(1, 0), 1);
        check.due("no column of an empty set", x.column(0, 3, 0), ProblemTexts.UNKNOWN);
        check.due("nor of the second one", x.column(2, 0, 3), ProblemTexts.UNKNOWN);
        check.due("work", x.count(6), 4);
        check.due("size of an empty set", x.set(0, 0), 0);
        check.due("its first number", x.set(0, 1), 3);
    }

    private static void modelStays(Check check) {
        ProblemTexts x = Check.model("var x in 2..5;rule r:x>=3;goal max x;");
        x.put(0, 4);
        String before = Check.state(x);
        String[] large = {"set s=0..7;var y[s,s] in 0..1;", "set s=0..7;rule q for i in s,j in s:1=1;",
            "set s=0..7;goal min sum(i in s,j in s:sum(k in s,l in s:1+1+1+1+1));"};
        for (int i = 0; i < large.length; i++) {
            check.due(large[i], Check.read(x, large[i]), SIZE);
            check.due("the state behind " + large[i], Check.state(x), before);
        }
        check.due("a right text takes its place", Check.read(x, "rule q:1=1;"), 1);
        check.due("no columns any more", x.count(4), 0);
        check.due("no goal any more", x.count(7), 0);
    }
}
