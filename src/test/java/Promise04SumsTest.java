/** Promise 4, read: how SUMS, PARTS, FACTORS, INDICES and REL are written. */
public final class Promise04SumsTest {
    private static final String S = "set s=0..1;set t=0..2;data c=2;var x in 0..1;var y[s] in 0..1;";

    public static void main(String[] args) throws IllegalAccessException {
        Check.run(Promise04SumsTest.class);
    }

    static void aSumBeginsWithAPartOrMinus(Check check) {
        check.rows(S + "goal min x;", 0);
        check.rows(S + "goal min -x;", 0);
        check.rows(S + "rule r:-x=-1;", 1);
        check.rows(S + "goal min (-x)+sum(i in s:-y[i]);", 0);
        check.fault(S + "goal min ^+x;");
        check.fault(S + "goal min -^-x;");
        check.fault(S + "goal min -^+x;");
        check.fault(S + "goal min ^*x;");
        check.fault(S + "goal min (^+x);");
        check.fault(S + "goal min sum(i in s:^+x);");
        check.fault(S + "rule r:1=^+1;");
    }

    static void aSumGoesOnWithPlusOrMinus(Check check) {
        check.rows(S + "goal min x+1-c;", 0);
        check.fault(S + "goal min x ^x;");
        check.fault(S + "goal min 2 ^x;");
        check.fault(S + "goal min (1)^(2);");
        check.fault(S + "goal min x+^+1;");
        check.fault(S + "goal min x+^-1;");
        check.fault(S + "goal min x-^-1;");
        check.fault(S + "goal min x-^;");
        check.fault(S + "goal min x+^");
        check.fault(S + "goal min x^,1;");
    }

    static void aSumHasAsManyPartsAsTheTextHasRoomFor(Check check) {
        check.rows("goal min 1" + "+1".repeat(194) + ";", 0);
        check.answers(Scene.model("goal min 1" + "+1".repeat(194) + ";"), 195, "worth");
        check.answers(Scene.model("goal min 1" + "-1".repeat(194) + ";"), -193, "worth");
        check.answers(Scene.model("goal min 1" + "*1".repeat(194) + ";"), 1, "worth");
        check.rows("goal min-1" + "+1".repeat(194) + ";", 0);
    }

    static void aPartIsFactorsWithTimesBetween(Check check) {
        check.rows(S + "goal min 2*c*(3)*x*sum(i in s:i);", 0);
        check.fault(S + "goal min 2*^*x;");
        check.fault(S + "goal min 2*^;");
        check.fault(S + "goal min 2*^-x;");
        check.fault(S + "goal min 2*^+x;");
        check.fault(S + "goal min 2*^)");
        check.fault(S + "goal min 2*^");
    }

    static void aFactorIsNoOtherToken(Check check) {
        for (String token : new String[] {"=", "<=", ">=", ")", "[", "]", ",", ";", ":", "..", "set", "data", "var",
            "rule", "goal", "min", "max", "in", "for", "abcde", "12345", "@", "<", "."}) {
            check.fault(S + "goal min ^" + token);
            check.fault(S + "goal min x*^" + token);
            check.fault(S + "goal min x-^" + token);
            check.fault(S + "goal min (^" + token);
            check.fault(S + "rule r:1=^" + token);
            check.fault(S + "goal min sum(i in s:^" + token);
        }
    }

    static void bracketsHoldASum(Check check) {
        check.rows(S + "goal min (x);", 0);
        check.rows(S + "goal min ((x+1)-(c));", 0);
        check.fault(S + "goal min (^);");
        check.fault(S + "goal min (x^;");
        check.fault(S + "goal min (x^");
        check.fault(S + "goal min (x)^);");
        check.fault(S + "goal min (x^,1);");
        check.fault(S + "goal min (x^:1);");
        check.fault(S + "rule r:(x^=1);");
    }

    static void aSumHasIndicesAndASum(Check check) {
        check.rows(S + "goal min sum(i in s:1);", 0);
        check.rows(S + "goal min sum(i in s,j in t:i+j);", 0);
        check.fault(S + "goal min sum^;");
        check.fault(S + "goal min sum ^i in s:1;");
        check.fault(S + "goal min sum(^);");
        check.fault(S + "goal min sum(^1);");
        check.fault(S + "goal min sum(^x);");
        check.fault(S + "goal min sum(^:1);");
        check.fault(S + "goal min sum(i^:1);");
        check.fault(S + "goal min sum(i in ^:1);");
        check.fault(S + "goal min sum(i in s^);");
        check.fault(S + "goal min sum(i in s:^);");
        check.fault(S + "goal min sum(i in s:1^;");
        check.fault(S + "goal min sum(i in s:1^:1);");
        check.fault(S + "goal min sum(i in s:1)^);");
        check.fault(S + "goal min sum(i in s:1^=1);");
    }

    static void indicesAreOneOrTwo(Check check) {
        check.rows(S + "rule r for i in s:i=1;", 2);
        check.rows(S + "rule r for i in s,j in t:i=j;", 6);
        check.fault(S + "rule r for ^:1=1;");
        check.fault(S + "rule r for i in s,^:1=1;");
        check.fault(S + "rule r for i in s^;");
        check.fault(S + "rule r for i in s,j in t^,k in s:1=1;");
        check.fault(S + "rule r for i in s ^j in t:1=1;");
        check.fault(S + "rule r for i^,j in s:1=1;");
        check.fault(S + "goal min sum(i in s,^:1);");
        check.fault(S + "goal min sum(i in s,j in t^,k in s:1);");
        check.fault(S + "goal min sum(i in s,j^:1);");
    }

    static void indicesAreANewNameInASet(Check check) {
        check.fault(S + "rule r for ^1 in s:1=1;");
        check.fault(S + "rule r for ^in s:1=1;");
        check.fault(S + "rule r for i^=s:1=1;");
        check.fault(S + "rule r for i ^s:1=1;");
        check.fault(S + "rule r for i in ^0..1:1=1;");
        check.fault(S + "rule r for i in ^i:1=1;");
        check.fault(S + "rule r for i in ^r:1=1;");
        check.fault(S + "rule r for i in ^x:1=1;");
        check.fault(S + "rule r for i in s,j in ^i:1=1;");
        check.fault(S + "rule r for i in s,j in ^j:1=1;");
        check.fault(S + "rule r for i in s,^s in t:1=1;");
    }

    static void relIsOneOfThree(Check check) {
        String[] signs = {"<=", "=", ">="};
        for (int i = 0; i < 3; i++) {
            check.rows("rule r:1" + signs[i] + "1;", 1);
            check.answers(Scene.model("rule r:1" + signs[i] + "1;"), i - 1, "row", 0, 3);
        }
        for (String other : new String[] {"<", ">", ":", ",", "..", "in", "(", "1", "r", "]"}) {
            check.fault("rule r:1 ^" + other + " 1;");
        }
        check.fault("rule r:1^;");
        check.fault("rule r:1^");
    }

    static void aGoalHasNoIndices(Check check) {
        check.fault(S + "goal min ^for i in s:1;");
        check.fault(S + "goal ^for i in s min 1;");
        check.fault(S + "goal min ^i;");
    }
}
