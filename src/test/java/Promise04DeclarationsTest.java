/** Promise 4, read: the DECLARATIONS, how many of them there are, and where each of them ends. */
public final class Promise04DeclarationsTest {
    private static final String SETS = "set a=1..0;set b=1..0;set c=1..0;set d=1..0;set e=1..0;set f=1..0;";
    private static final String TABLES = "data g=1;data h=1;data i=1;data j=1;data k=1;data l=1;";
    private static final String VARS = "var m in 0..1;var n in 0..1;var o in 0..1;var p in 0..1;var q in 0..1;"
            + "var r in 0..1;";
    private static final String RULES = "rule s:1=1;rule t:1=1;rule u:1=1;rule v:1=1;rule w:1=1;rule x:1=1;"
            + "rule y:1=1;rule z:1=1;rule aa:1=1;rule bb:1=1;";

    public static void main(String[] args) throws IllegalAccessException {
        Check.run(Promise04DeclarationsTest.class);
    }

    static void anyNumberOfDeclarations(Check check) {
        check.rows("", 0);
        check.rows("set s=0..1;", 0);
        check.rows("data d=1;", 0);
        check.rows("var x in 0..1;", 0);
        check.rows("rule r:1=1;", 1);
        check.rows("goal min 1;", 0);
        check.rows(SETS + TABLES + VARS + RULES + "goal max 1;", 10);
    }

    static void inAnyOrder(Check check) {
        check.rows("goal min 1;" + RULES + VARS + TABLES + SETS, 10);
        check.rows("rule r:1=1;set s=0..1;goal min 1;rule q for i in s:1=1;var x[s] in 0..1;data d[s]=1 2;", 3);
    }

    static void oneBehindTheOtherWithNothingBetween(Check check) {
        check.fault("set s=0..1;^;");
        check.fault("set s=0..1;^,");
        check.fault("^;set s=0..1;");
        check.fault("set s=0..1 ^set t=0..1;");
        check.fault("^a");
        check.fault("^1");
        check.fault("rule r:1=1;^r");
    }

    static void otherWordsBeginNone(Check check) {
        for (String word : new String[] {"min", "max", "sum", "in", "for"}) {
            check.fault("^" + word);
            check.fault("rule r:1=1;^" + word + " 1;");
        }
    }

    static void sixSetsAndNoSeventh(Check check) {
        check.rows(SETS, 0);
        check.answers(Scene.model(SETS), 6, "count", 0);
        check.fault(SETS + "set ^g=1..0;");
        check.fault(SETS + "set ^a=1..0;");
        check.fault(SETS + "set ^;");
        check.fault(SETS + "set^");
        check.fault(SETS + "set ^g @");
        check.rows(SETS + "data g=1;", 0);
    }

    static void sixDataAndNoSeventh(Check check) {
        check.rows(TABLES, 0);
        check.answers(Scene.model(TABLES), 6, "count", 1);
        check.fault(TABLES + "data ^m=1;");
        check.fault(TABLES + "data^");
        check.fault(TABLES + "data ^m @");
        check.rows(TABLES + "var m in 0..1;", 0);
    }

    static void sixVarsAndNoSeventh(Check check) {
        check.rows(VARS, 0);
        check.answers(Scene.model(VARS), 6, "count", 2);
        check.fault(VARS + "var ^s in 0..1;");
        check.fault(VARS + "var^");
        check.fault(VARS + "var ^s @");
        check.rows(VARS + "set s=0..1;", 0);
    }

    static void varsWithoutColumnsAreVarsAsWell(Check check) {
        String none = "set e=1..0;var a[e] in 0..1;var b[e] in 0..1;var c[e] in 0..1;var d[e] in 0..1;"
                + "var f[e] in 0..1;var g[e] in 0..1;";
        check.rows(none, 0);
        check.fault(none + "var ^h[e] in 0..1;");
    }

    static void tenRulesAndNoEleventh(Check check) {
        check.rows(RULES, 10);
        check.answers(Scene.model(RULES), 10, "count", 3);
        check.fault(RULES + "rule ^cc:1=1;");
        check.fault(RULES + "rule^");
        check.fault(RULES + "rule ^cc @");
        check.rows(RULES + "goal min 1;", 10);
    }

    static void rulesWithoutRowsAreRulesAsWell(Check check) {
        String none = "set e=1..0;" + RULES.replace(":", " for i in e:");
        check.rows(none, 0);
        check.answers(Scene.model(none), 10, "count", 3);
        check.fault(none + "rule ^cc:1=1;");
    }

    /** All things that there may be, and as many indices around as a text then has room for. */
    static void allThingsAndTheIndicesAroundHaveNames(Check check) {
        String text = "set a=1..0;set b=1..0;set c=1..0;set d=1..0;set e=1..0;set f=1..1;" + TABLES + VARS
                + RULES.substring(0, RULES.indexOf("rule bb"))
                + "rule bb for ba in f,bd in f:sum(be in f,bf in f:sum(bg in f,bh in f:sum(bi in f:ba+bi+r)))=7;";
        check.rows(text, 10);
        Scene x = Scene.model(text);
        check.answers(x, 1, "factor", 9, 5);
        check.answers(x, 5, "right", 9);
        check.due("the tenth rule", x.name(3, 9), "bb");
        for (String name : new String[] {"a", "f", "g", "l", "m", "r", "s", "aa", "bb", "ba", "bd", "be", "bh"}) {
            check.fault(text.replace("sum(bi in f:ba+bi+r)))=7;", "sum(^" + name + " in f:ba)))=7;"));
        }
    }

    static void oneGoalAndNoSecond(Check check) {
        check.rows("goal min 1;", 0);
        check.rows("goal max 1;", 0);
        check.fault("goal min 1;^goal max 2;");
        check.fault("goal max 1;^goal max 1;");
        check.fault("goal min 1;rule r:1=1;^goal");
        check.fault("goal min 1; \n ^goal @");
    }

    static void whatIsSpokenOfIsDeclaredAhead(Check check) {
        check.fault("data d[^s]=1 2;set s=0..1;");
        check.fault("var x[^s] in 0..1;set s=0..1;");
        check.fault("rule r for i in ^s:1=1;set s=0..1;");
        check.fault("rule r:^x=1;var x in 0..1;");
        check.fault("goal min ^d;data d=1;");
        check.fault("rule r:^q=1;rule q:1=1;");
    }

    static void aSetIsWrittenAsTold(Check check) {
        check.fault("set^");
        check.fault("set ^=0..1;");
        check.fault("set ^5=0..1;");
        check.fault("set s^:0..1;");
        check.fault("set s^[");
        check.fault("set s=^..1;");
        check.fault("set s=^-1..1;");
        check.fault("set s=^a..1;");
        check.fault("set s=0^,1;");
        check.fault("set s=0^;");
        check.fault("set s=0..^;");
        check.fault("set s=1..^-1;");
        check.fault("set s=0..1^,2;");
        check.fault("set s=0..1^..2;");
    }

    static void dataIsWrittenAsTold(Check check) {
        check.fault("data ^=1;");
        check.fault("data d^;");
        check.fault("data d ^in 1;");
        check.fault("data d^:1;");
        check.fault("data d^1;");
    }

    static void aVarIsWrittenAsTold(Check check) {
        check.fault("var ^in 0..1;");
        check.fault("var x ^= 0..1;");
        check.fault("var x^;");
        check.fault("var x in ^;");
        check.fault("var x in ^..1;");
        check.fault("var x in 0 ^1;");
        check.fault("var x in 0^;");
        check.fault("var x in 0..^;");
        check.fault("var x in 0..1^,2;");
        check.fault("var x in 0..1 ^2;");
    }

    static void aRuleIsWrittenAsTold(Check check) {
        check.fault("rule ^:1=1;");
        check.fault("rule r ^1=1;");
        check.fault("rule r ^in 1=1;");
        check.fault("rule r:^;");
        check.fault("rule r:1^;");
        check.fault("rule r:^<=2;");
        check.fault("rule r:1<=^;");
        check.fault("rule r:1=2^=3;");
        check.fault("rule r:1<=2^<=3;");
        check.fault("rule r:1^..2;");
        check.fault("rule r:1=1^,");
        check.fault("rule r for ^:1=1;");
        check.fault("rule r:1=1 ^for i in s;");
    }

    static void aGoalIsWrittenAsTold(Check check) {
        check.fault("goal ^1;");
        check.fault("goal ^;");
        check.fault("goal ^sum(i in s:1);");
        check.fault("goal ^a min 1;");
        check.fault("goal min ^;");
        check.fault("goal min ^max 1;");
        check.fault("goal min 1^<=2;");
        check.fault("goal min 1^=2;");
        check.fault("goal min 1^:");
        check.fault("goal^:min 1;");
    }

    /** Behind each TOKEN of a declaration but its last one the end can't stand, nor another declaration. */
    static void declarationsThatEndTooEarly(Check check) {
        String[] declarations = {"set s = 1 .. 2 ;", "data c = - 5 ;", "data d [ s ] = 1 - 2 ;",
            "data e [ s , s ] = 1 2 3 - 4 ;", "var x in 0 .. 3 ;", "var y [ s ] in - 3 .. - 1 ;",
            "var z [ s , s ] in 0 .. 1 ;", "rule p : 1 <= x ;",
            "rule q for i in s : y [ i ] * ( c + 1 ) = e [ i , 2 ] ;",
            "rule r for i in s , j in s : - sum ( k in s , l in s : z [ k , l ] ) - i >= z [ i , j ] * j ;",
            "goal max sum ( i in s : d [ i ] * y [ i ] ) - 7 ;"};
        StringBuilder ahead = new StringBuilder();
        for (String declaration : declarations) {
            String[] tokens = declaration.split(" ");
            StringBuilder begun = new StringBuilder(ahead);
            for (int i = 0; i < tokens.length - 1; i++) {
                begun.append(tokens[i]);
                check.fault(begun + "^");
                check.fault(begun + " \n^");
                check.fault(begun + " ^set t=0..1;");
                check.fault(begun + " ^@");
                begun.append(' ');
            }
            check.rows(ahead + declaration, rowsOf(declaration));
            // only what later declarations speak of is kept, for the room
            ahead.append(declaration.startsWith("rule") ? "" : declaration.replace(" ;", ";"));
        }
    }

    private static int rowsOf(String declaration) {
        return !declaration.startsWith("rule") ? 0 : declaration.contains(", j") ? 4 : declaration.contains("for") ? 2 : 1;
    }

    static void atTheEndTheFaultIsHowManyBytesThereAre(Check check) {
        check.fault("set^");
        check.fault("set ^");
        check.fault("set \n\n ^");
        check.fault("rule r:1=1;rule q:1=1^");
        String most = "goal min 1" + "+1".repeat(194);
        check.rows(most + ";", 0);
        check.rows(most + "; ", 0);
        check.rows(most + ";\n", 0);
        check.fault(most + "+1^");
        check.fault(most + ";^1");
        check.fault(most + "+^*");
    }
}
