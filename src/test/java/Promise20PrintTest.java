/** Promise 20, print: a ROW is PRINTED on OUT: how many bytes. UNKNOWN. */
public final class Promise20PrintTest {
    private static final int UNKNOWN = ProblemTexts.UNKNOWN;
    private static final String V = "var a in 0..1;var bc in 0..1;var d in 0..1;";

    public static void main(String[] args) throws IllegalAccessException {
        Check.run(Promise20PrintTest.class);
    }

    private static void printed(Check check, Scene x, int row, String want) {
        check.answers(x, want.length(), "print", row);
        check.answers(x.and("print", row), want.length(), "count", 9);
        check.due("OUT", x.and("print", row).out(), want);
    }

    /** The rule r with this text behind its NAME is PRINTED so, behind NAME, colon and blank. */
    private static void rule(Check check, String text, String want) {
        printed(check, Scene.model(V + "rule r:" + text + ";"), 0, "r: " + want);
    }

    static void theNameAColonABlank(Check check) {
        for (String name : new String[] {"a", "zz", "abc", "wxyz"}) {
            printed(check, Scene.model("rule " + name + ":1=1;"), 0, name + ": 0 = 0;");
        }
    }

    static void aheadOfTheFirst(Check check) {
        rule(check, "a=0", "a = 0;");
        rule(check, "-a=0", "-a = 0;");
        rule(check, "bc=0", "bc = 0;");
        rule(check, "-bc=0", "-bc = 0;");
        rule(check, "0=d", "-d = 0;");
        rule(check, "2*d=0", "2*d = 0;");
        rule(check, "-2*d=0", "-2*d = 0;");
    }

    static void aheadOfOthers(Check check) {
        rule(check, "a+bc+d=0", "a + bc + d = 0;");
        rule(check, "-a-bc-d=0", "-a - bc - d = 0;");
        rule(check, "a-bc+d=0", "a - bc + d = 0;");
        rule(check, "2*a-3*bc+10*d=0", "2*a - 3*bc + 10*d = 0;");
        rule(check, "-2*a+3*bc-10*d=0", "-2*a + 3*bc - 10*d = 0;");
    }

    static void columnsStandInTheirOrder(Check check) {
        rule(check, "d+bc=a", "-a + bc + d = 0;");
        rule(check, "d=bc", "-bc + d = 0;");
    }

    static void factorsOf0AreLeftOut(Check check) {
        rule(check, "a+0*bc+d=0", "a + d = 0;");
        rule(check, "0*a+bc=d*0", "bc = 0;");
        rule(check, "a+bc=a", "bc = 0;");
    }

    static void aSizeThatIsNot1(Check check) {
        rule(check, "1*a=0", "a = 0;");
        rule(check, "0-1*a=0", "-a = 0;");
        rule(check, "3*a-2*a-bc+2*d-3*d=0", "a - bc - d = 0;");
        rule(check, "2*a=0", "2*a = 0;");
        rule(check, "-2*a=0", "-2*a = 0;");
        rule(check, "9*a+10*bc-11*d=0", "9*a + 10*bc - 11*d = 0;");
        rule(check, "99*a+100*bc-101*d=0", "99*a + 100*bc - 101*d = 0;");
        rule(check, "1000*1000*1000*1000*1000*1000*a=0", "1000000000000000000*a = 0;");
    }

    static void theLeastLongHasASize(Check check) {
        String least = Check.LEAST_LONG;
        rule(check, least + "*a=0", "-9223372036854775808*a = 0;");
        rule(check, least + "*a+bc*" + least + "=0", "-9223372036854775808*a - 9223372036854775808*bc = 0;");
        rule(check, "(" + least + "-1)*a=0", "9223372036854775807*a = 0;");
        rule(check, "(" + least + "+1)*a=0", "-9223372036854775807*a = 0;");
        rule(check, "a+(" + least + "-1)*d=0", "a + 9223372036854775807*d = 0;");
    }

    static void zeroIfThereIsNone(Check check) {
        rule(check, "1=1", "0 = 0;");
        rule(check, "0*a=7", "0 = 7;");
        rule(check, "a=a", "0 = 0;");
        rule(check, "a*8*" + Check.LEAST_LONG + "=0", "0 = 0;");
        printed(check, Scene.model("rule r:3<=2;"), 0, "r: 0 <= -1;");
    }

    static void relIsOneOfThree(Check check) {
        rule(check, "a<=1", "a <= 1;");
        rule(check, "a=1", "a = 1;");
        rule(check, "a>=1", "a >= 1;");
    }

    static void rightAsItIs(Check check) {
        String least = Check.LEAST_LONG;
        rule(check, "a=0", "a = 0;");
        rule(check, "a=1", "a = 1;");
        rule(check, "a=-1", "a = -1;");
        rule(check, "a=9", "a = 9;");
        rule(check, "a=10", "a = 10;");
        rule(check, "a=-10", "a = -10;");
        rule(check, "a+9999=0", "a = -9999;");
        rule(check, "a=" + least, "a = -9223372036854775808;");
        rule(check, "a=" + least + "-1", "a = 9223372036854775807;");
        rule(check, "a=" + least + "+1", "a = -9223372036854775807;");
    }

    static void numbersOfThePlace(Check check) {
        Scene x = Scene.model("set s=9999..9999;set t=0..1;set u=10..10;var x[s] in 0..1;var yy[t,s] in 0..1;"
                + "var z[u,t] in 0..1;var w in 0..1;rule r:x[9999]-2*yy[0,9999]+yy[1,9999]=z[10,0]-3*z[10,1]-w;"
                + "rule q:w=x[9999];rule p:0=yy[0,9999];");
        printed(check, x, 0, "r: x[9999] - 2*yy[0,9999] + yy[1,9999] - z[10,0] + 3*z[10,1] + w = 0;");
        printed(check, x, 1, "q: -x[9999] + w = 0;");
        printed(check, x, 2, "p: -yy[0,9999] = 0;");
    }

    static void rowsOfARuleBearItsNameAlone(Check check) {
        Scene x = Scene.model("set s=1..2;var x[s] in 0..1;rule r for i in s,j in s:x[i]>=j;");
        printed(check, x, 0, "r: x[1] >= 1;");
        printed(check, x, 1, "r: x[1] >= 2;");
        printed(check, x, 2, "r: x[2] >= 1;");
        printed(check, x, 3, "r: x[2] >= 2;");
    }

    static void whatIsPrintedTakesThePlaceOfWhatWas(Check check) {
        Scene x = Scene.model("var x in 0..1;rule r:x<=1;rule long:x>=1;");
        printed(check, x.and("print", 1), 0, "r: x <= 1;");
        printed(check, x.and("print", 0), 1, "long: x >= 1;");
        printed(check, x.and("print", 0), 0, "r: x <= 1;");
    }

    static void noRowBesideTheFirstAndTheLast(Check check) {
        printed(check, Scene.standing(), 0, "r: x[1] <= 3;");
        printed(check, Scene.standing(), 2, "q: -x[1] + y >= 2;");
        for (int row : new int[] {-1, 3, 4, 39, 40, Check.LEAST, Check.MOST}) {
            check.refuses(UNKNOWN, "print", row);
        }
        check.refuses(Scene.standing().and("cut", 0).and("read"), UNKNOWN, "print", 0);
        check.refuses(Scene.fresh(), UNKNOWN, "print", 0);
    }

    static void onlyOutChanges(Check check) {
        Scene x = Scene.standing();
        Scene again = x.and("print", 0).and("print", 1);
        check.due("everything behind print(0) and print(1)", again.everything(), x.everything());
    }

    /** 40 COLUMNS of four letters and two numbers of four digits, each with a FACTOR of 19 digits. */
    static void theLongestRow(Check check) {
        String least = Check.LEAST_LONG;
        Scene x = Scene.model("set s=9992..9999;set t=9995..9999;var xxxx[s,t] in 0..1;"
                + "rule rrrr:sum(i in s,j in t:xxxx[i,j])*" + least + ">=" + least + ";");
        StringBuilder want = new StringBuilder("rrrr: ");
        for (int i = 9992; i <= 9999; i++) {
            for (int j = 9995; j <= 9999; j++) {
                want.append(want.length() == 6 ? "-" : " - ");
                want.append("9223372036854775808*xxxx[").append(i).append(',').append(j).append(']');
            }
        }
        printed(check, x, 0, want.append(" >= -9223372036854775808;").toString());
    }

    static void theLastOf40Rows(Check check) {
        Scene x = Scene.model("set s=1..8;set t=1..5;var x[s] in 0..1;rule r for i in s,j in t:x[i]<=j;");
        printed(check, x, 0, "r: x[1] <= 1;");
        printed(check, x, 39, "r: x[8] <= 5;");
        check.refuses(x, UNKNOWN, "print", 40);
    }
}
