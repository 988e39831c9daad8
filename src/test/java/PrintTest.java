/** Promises 20 and 21: print, out. */
public final class PrintTest {
    private static final int NONE = ProblemTexts.NONE, UNKNOWN = ProblemTexts.UNKNOWN;

    public static void main(String[] args) {
        Check check = new Check();
        terms(check);
        places(check);
        largeNumbers(check);
        outStays(check);
        longestRow(check);
        check.end();
    }

    private static void printed(Check check, ProblemTexts x, int row, String want) {
        check.due("print(" + row + ")", x.print(row), want.length());
        check.due("OUT of " + row, Check.out(x), want);
        check.due("count(9) of " + row, x.count(9), want.length());
        check.due("out behind the end", x.out(want.length()), NONE);
    }

    private static void terms(Check check) {
        String v = "var a in 0..1;var bc in 0..1;var d in 0..1;";
        ProblemTexts x = Check.model(v + "rule r:a+bc+d<=0;rule s:-a-bc-d>=-1;rule tuvw:2*a-3*bc+10*d=42;"
                + "rule x:bc=a;rule y:0*a=7;rule z:bc*5-d*9999>=a*0-9999*1000;rule q:-2*d<=0;");
        printed(check, x, 0, "r: a + bc + d <= 0;");
        printed(check, x, 1, "s: -a - bc - d >= -1;");
        printed(check, x, 2, "tuvw: 2*a - 3*bc + 10*d = 42;");
        printed(check, x, 3, "x: -a + bc = 0;");
        printed(check, x, 4, "y: 0 = 7;");
        printed(check, x, 5, "z: 5*bc - 9999*d >= -9999000;");
        printed(check, x, 6, "q: -2*d <= 0;");
        printed(check, Check.model("rule r:3<=2;"), 0, "r: 0 <= -1;");
    }

    private static void places(Check check) {
        ProblemTexts x = Check.model("set s=9998..9999;set t=0..1;var x[s] in 0..1;var yy[t,s] in 0..1;"
                + "rule r for i in s:x[i]-2*yy[0,i]>=sum(j in t:yy[j,9998])-i;");
        printed(check, x, 0, "r: x[9998] - 3*yy[0,9998] - yy[1,9998] >= -9998;");
        printed(check, x, 1, "r: x[9999] - yy[0,9998] - 2*yy[0,9999] - yy[1,9998] >= -9999;");
    }

    private static void largeNumbers(Check check) {
        String least = "8" + "*8".repeat(20);
        ProblemTexts x = Check.model("var x in 0..1;var y in 0..1;rule r:" + least + "*x+" + least + "*y<=" + least
                + ";rule q:(" + least + "-1)*y=-1+" + least + ";");
        printed(check, x, 0, "r: -9223372036854775808*x - 9223372036854775808*y <= -9223372036854775808;");
        printed(check, x, 1, "q: 9223372036854775807*y = 9223372036854775807;");
        ProblemTexts tens = Check.model("var x in 0..1;rule r:1000*1000*1000*1000*1000*1000*x=9*10;"
                + "rule q:9999*x=-10;rule p:10*x=100;rule o:9*x=1000*1000*1000*1000*1000*1000-1;");
        printed(check, tens, 0, "r: 1000000000000000000*x = 90;");
        printed(check, tens, 1, "q: 9999*x = -10;");
        printed(check, tens, 2, "p: 10*x = 100;");
        printed(check, tens, 3, "o: 9*x = 999999999999999999;");
    }

    private static void outStays(Check check) {
        ProblemTexts x = Check.model("var x in 0..1;rule r:x<=1;rule long:x>=1;");
        check.due("out(0) of nothing", x.out(0), NONE);
        printed(check, x, 1, "long: x >= 1;");
        check.due("print(2)", x.print(2), UNKNOWN);
        check.due("print(-1)", x.print(-1), UNKNOWN);
        check.due("OUT stays", Check.out(x), "long: x >= 1;");
        printed(check, x, 0, "r: x <= 1;");
        check.due("out(-1)", x.out(-1), NONE);
        check.due("out(least)", x.out(Integer.MIN_VALUE), NONE);
        check.due("out(most)", x.out(Integer.MAX_VALUE), NONE);
        check.due("read of a fault", Check.read(x, "@"), -10);
        check.due("OUT stays behind a fault", Check.out(x), "r: x <= 1;");
        check.due("read of nothing", x.read(), 0);
        check.due("OUT stays behind a text", Check.out(x), "r: x <= 1;");
        check.due("print(0) without rows", x.print(0), UNKNOWN);
        check.due("OUT stays behind it", Check.out(x), "r: x <= 1;");
    }

    private static void longestRow(Check check) {
        // 40 columns of four letters and two places of four digits, each with a factor of 19 digits
        ProblemTexts x = Check.model("set s=9992..9999;set t=9995..9999;var xxxx[s,t] in 0..1;"
                + "rule rrrr:sum(i in s,j in t:xxxx[i,j])*8" + "*8".repeat(20) + "<=8" + "*8".repeat(20) + ";");
        StringBuilder want = new StringBuilder("rrrr: ");
        for (int i = 9992; i <= 9999; i++) {
            for (int j = 9995; j <= 9999; j++) {
                want.append(want.length() == 6 ? "-" : " - ");
                want.append("9223372036854775808*xxxx[").append(i).append(',').append(j).append(']');
            }
        }
        printed(check, x, 0, want.append(" <= -9223372036854775808;").toString());
    }
}
