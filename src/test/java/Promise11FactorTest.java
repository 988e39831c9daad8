/** Promise 11, factor: a FACTOR. UNKNOWN. */
public final class Promise11FactorTest {
    private static final int UNKNOWN = ProblemTexts.UNKNOWN;
    private static final String TEXT = "set s=1..3;var x[s] in 0..1;rule r for i in s:(i+i)*x[i]=x[1];rule q:-x[3]>=2;";

    public static void main(String[] args) throws IllegalAccessException {
        Check.run(Promise11FactorTest.class);
    }

    static void eachRowAndColumn(Check check) {
        Scene x = Scene.model(TEXT);
        long[][] want = {{1, 0, 0}, {-1, 4, 0}, {-1, 0, 6}, {0, 0, -1}};
        for (int row = 0; row < 4; row++) {
            for (int column = 0; column < 3; column++) {
                check.answers(x, want[row][column], "factor", row, column);
            }
        }
    }

    static void noRowBesideTheFirstAndTheLast(Check check) {
        for (int row : new int[] {-1, 4, 5, 39, 40, Check.LEAST, Check.MOST}) {
            for (int column = 0; column < 3; column++) {
                check.refuses(Scene.model(TEXT), UNKNOWN, "factor", row, column);
            }
        }
    }

    static void noColumnBesideTheFirstAndTheLast(Check check) {
        for (int column : new int[] {-1, 3, 4, 39, 40, Check.LEAST, Check.MOST}) {
            for (int row = 0; row < 4; row++) {
                check.refuses(Scene.model(TEXT), UNKNOWN, "factor", row, column);
            }
            check.refuses(Scene.model(TEXT), UNKNOWN, "factor", column, column);
        }
    }

    static void withoutRowsOrColumnsThereIsNone(Check check) {
        check.refuses(Scene.model("var x in 0..1;"), UNKNOWN, "factor", 0, 0);
        check.refuses(Scene.model("rule r:1=1;"), UNKNOWN, "factor", 0, 0);
    }

    static void theLastOf40And40(Check check) {
        Scene x = Scene.model("set s=1..8;set t=1..5;var x[s,t] in 0..1;rule r for i in s,j in t:9*x[i,j]=x[1,1];");
        check.answers(x, 8, "factor", 0, 0);
        check.answers(x, -1, "factor", 39, 0);
        check.answers(x, 0, "factor", 0, 39);
        check.answers(x, 9, "factor", 39, 39);
        check.answers(x, UNKNOWN, "factor", 40, 39);
        check.answers(x, UNKNOWN, "factor", 39, 40);
        check.refuses(x, UNKNOWN, "factor", 40, 40);
    }

    static void theLeastAndTheGreatestLong(Check check) {
        Scene x = Scene.model("var x in 0..1;rule a:" + Check.LEAST_LONG + "*x=0;rule b:(" + Check.LEAST_LONG
                + "-1)*x=0;rule c:x*(" + Check.LEAST_LONG + "-1)=-x;");
        check.answers(x, Long.MIN_VALUE, "factor", 0, 0);
        check.answers(x, Long.MAX_VALUE, "factor", 1, 0);
        check.answers(x, Long.MIN_VALUE, "factor", 2, 0);
    }

    /** A FACTOR may be the number that a refusal is: it is told all the same. */
    static void aFactorThatLooksLikeARefusal(Check check) {
        Scene x = Scene.model("var x in 0..1;rule a:-x-1000*100*x=0;rule b:-x=0;");
        check.answers(x, -100001, "factor", 0, 0);
        check.answers(x, -1, "factor", 1, 0);
    }
}
