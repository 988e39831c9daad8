/** Promise 4, read: what THE MODEL is: FACTORS, RIGHT, REL, PRICES; numbers that run over; the POINT. */
public final class Promise04ModelTest {
    private static final String V = "set s=1..3;data c[s]=5 6 7;var x[s] in 0..1;var y in 0..1;";

    public static void main(String[] args) throws IllegalAccessException {
        Check.run(Promise04ModelTest.class);
    }

    /** The FACTORS of x[1], x[2], x[3], y, and RIGHT. */
    private static void row(Check check, Scene x, int row, long... want) {
        for (int column = 0; column < 4; column++) {
            check.answers(x, want[column], "factor", row, column);
        }
        check.answers(x, want[4], "right", row);
    }

    static void factorsAreTheLeftLessTheRight(Check check) {
        Scene x = Scene.model(V + "rule a:x[1]=0;rule b:0=x[1];rule d:3*x[1]=5*x[1]+y;rule f:x[2]=x[2];"
                + "rule g:x[3]+x[3]+x[3]>=y-y-y;rule h:-y<=-x[1];");
        row(check, x, 0, 1, 0, 0, 0, 0);
        row(check, x, 1, -1, 0, 0, 0, 0);
        row(check, x, 2, -2, 0, 0, -1, 0);
        row(check, x, 3, 0, 0, 0, 0, 0);
        row(check, x, 4, 0, 0, 3, 1, 0);
        row(check, x, 5, 1, 0, 0, -1, 0);
    }

    static void rightIsTheRightLessTheLeft(Check check) {
        Scene x = Scene.model(V + "rule a:1=0;rule b:0=1;rule d:3+2=7;rule f:y+4<=6-c[2];rule g:2=2;rule h:-1>=-3;");
        row(check, x, 0, 0, 0, 0, 0, -1);
        row(check, x, 1, 0, 0, 0, 0, 1);
        row(check, x, 2, 0, 0, 0, 0, 2);
        row(check, x, 3, 0, 0, 0, 1, -4);
        row(check, x, 4, 0, 0, 0, 0, 0);
        row(check, x, 5, 0, 0, 0, 0, -2);
    }

    static void productsGoThroughBracketsAndSums(Check check) {
        Scene x = Scene.model(V + "rule a:3+2*x[1]-4<=x[1]*5-y-6;rule b:-(x[1]-2*(y-3))*4>=0;"
                + "rule d:sum(i in s:i*(x[i]+1)*c[i])*2=1;"
                + "rule e for i in s:sum(j in s:(i-j)*x[j])=sum(j in s,k in s:i*j*k*c[j]);");
        row(check, x, 0, -3, 0, 0, 1, -5);
        row(check, x, 1, -4, 0, 0, 8, 24);
        row(check, x, 2, 10, 24, 42, 0, 1 - 2 * 38);
        row(check, x, 3, 0, -1, -2, 0, 6 * 38);
        row(check, x, 4, 1, 0, -1, 0, 12 * 38);
        row(check, x, 5, 2, 1, 0, 0, 18 * 38);
    }

    static void minusBelongsToItsPartAlone(Check check) {
        Scene x = Scene.model(V + "rule a:-2*3*y+1=0;rule b:-y+1=0;rule d:2-3*y-4=0;rule e:-(y-1)-(2-y*5)=0;");
        row(check, x, 0, 0, 0, 0, -6, -1);
        row(check, x, 1, 0, 0, 0, -1, -1);
        row(check, x, 2, 0, 0, 0, -3, 2);
        row(check, x, 3, 0, 0, 0, 4, 1);
    }

    static void factorsStandInAnyOrder(Check check) {
        Scene x = Scene.model(V + "rule a:2*y*3*c[1]=0;rule b:y*2*3*c[1]=0;rule d:(3)*c[1]*2*y=0;"
                + "rule e:(y+1)*(2)*sum(i in s:i)=0;rule f:sum(i in s:i)*(y+1)*2=0;");
        for (int i = 0; i < 3; i++) {
            row(check, x, i, 0, 0, 0, 30, 0);
        }
        row(check, x, 3, 0, 0, 0, 12, -12);
        row(check, x, 4, 0, 0, 0, 12, -12);
    }

    static void sumsOverNothingAreNothing(Check check) {
        Scene x = Scene.model("set e=1..0;" + V + "rule a:sum(i in e:7)=y;rule b:sum(i in s,j in e:x[i]+1)=0;"
                + "rule d:3*sum(i in e:x[i])+sum(j in e,i in s:i)=5;rule f:y*sum(i in e:1)=0;");
        row(check, x, 0, 0, 0, 0, -1, 0);
        row(check, x, 1, 0, 0, 0, 0, 0);
        row(check, x, 2, 0, 0, 0, 0, 5);
        row(check, x, 3, 0, 0, 0, 0, 0);
    }

    static void indicesStandForTheirNumbers(Check check) {
        Scene x = Scene.model("set o=9999..9999;set z=0..1;" + V
                + "rule a for i in o,j in z:i*y=j;rule b:sum(i in z,j in s:i*j*x[j])=sum(i in o:i);");
        row(check, x, 0, 0, 0, 0, 9999, 0);
        row(check, x, 1, 0, 0, 0, 9999, 1);
        row(check, x, 2, 1, 2, 3, 0, 9999);
    }

    static void anInnerSumLeavesTheOuterIndices(Check check) {
        Scene x = Scene.model(V + "rule a for i in s:sum(j in s:sum(k in s:k)+j)*i=sum(k in s,j in s:x[i]*(k-j+1));");
        for (int i = 1; i <= 3; i++) {
            long[] want = {0, 0, 0, 0, -(18 + 6) * i};
            want[i - 1] = -9;
            row(check, x, i - 1, want);
        }
    }

    static void theGoalHasPricesAndOneWithout(Check check) {
        Scene x = Scene.model(V + "goal min 7-2*y+sum(i in s:c[i]*x[i]-i);");
        long[] want = {5, 6, 7, -2};
        for (int column = 0; column < 4; column++) {
            check.answers(x, want[column], "price", column);
        }
        check.answers(x, 1, "price", -1);
    }

    static void factorsRunOver(Check check) {
        Scene x = Scene.model(V + "rule a:y*" + Check.LEAST_LONG + "=0;rule b:(" + Check.LEAST_LONG + "-1)*y=0;"
                + "rule d:0=" + Check.LEAST_LONG + "*y;rule e:y*(" + Check.LEAST_LONG + "+" + Check.LEAST_LONG + ")=0;");
        row(check, x, 0, 0, 0, 0, Long.MIN_VALUE, 0);
        row(check, x, 1, 0, 0, 0, Long.MAX_VALUE, 0);
        row(check, x, 2, 0, 0, 0, Long.MIN_VALUE, 0);
        row(check, x, 3, 0, 0, 0, 0, 0);
    }

    static void rightsRunOver(Check check) {
        Scene x = Scene.model(V + "rule a:0=" + Check.LEAST_LONG + ";rule b:" + Check.LEAST_LONG + "=0;rule d:0="
                + Check.LEAST_LONG + "-1;rule e:1=" + Check.LEAST_LONG + ";rule f:0=8*" + Check.LEAST_LONG + ";");
        row(check, x, 0, 0, 0, 0, 0, Long.MIN_VALUE);
        row(check, x, 1, 0, 0, 0, 0, Long.MIN_VALUE);
        row(check, x, 2, 0, 0, 0, 0, Long.MAX_VALUE);
        row(check, x, 3, 0, 0, 0, 0, Long.MAX_VALUE);
        row(check, x, 4, 0, 0, 0, 0, 0);
    }

    static void pricesRunOver(Check check) {
        Scene x = Scene.model(V + "goal max " + Check.LEAST_LONG + "*y-" + Check.LEAST_LONG + "-1"
                + "+9999*9999*9999*9999*9999*x[1];");
        check.answers(x, Long.MIN_VALUE, "price", 3);
        check.answers(x, Long.MAX_VALUE, "price", -1);
        check.answers(x, 9999L * 9999 * 9999 * 9999 * 9999, "price", 0);
    }

    static void thePointIsAtTheLowerEnds(Check check) {
        Scene x = Scene.model("set s=1..2;var a in -9999..9999;var b[s] in 3..3;var d[s,s] in -2..-1;var f in 0..0;");
        int[] want = {-9999, 3, 3, -2, -2, -2, -2, 0};
        for (int column = 0; column < want.length; column++) {
            check.answers(x, want[column], "about", column, 5);
        }
        Scene moved = x.and("put", 0, 5).and("put", 6, -1);
        check.answers(moved, 5, "about", 0, 5);
        Scene again = moved.feed("var a in 1..2;var b in 0..1;").and("read");
        check.answers(again, 1, "about", 0, 5);
        check.answers(again, 0, "about", 1, 5);
    }
}
