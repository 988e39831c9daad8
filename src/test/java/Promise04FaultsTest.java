/** Promise 4, read: the FAULTS of NAMES, sets, VALUES, spans, PLACES, holders of vars, and depth. */
public final class Promise04FaultsTest {
    public static void main(String[] args) throws IllegalAccessException {
        Check.run(Promise04FaultsTest.class);
    }

    /** A NAME that is told of a new thing, and is that of another: each sort ahead of each sort. */
    static void aNewNameIsThatOfNoOther(Check check) {
        String[] things = {"set a=0..1;", "data a=1;", "var a in 0..1;", "rule a:1=1;"};
        String[] told = {"set ^a=0..1;", "data ^a=1;", "var ^a in 0..1;", "rule ^a:1=1;", "rule b for ^a in s:1=1;",
            "rule b for i in s,^a in s:1=1;", "goal min sum(^a in s:1);", "goal min sum(i in s,^a in s:1);"};
        for (String thing : things) {
            for (String more : told) {
                check.fault("set s=0..1;" + thing + more);
                check.fault("set s=0..1;" + thing + "set z=0..0;" + more);
            }
        }
    }

    static void namesThatBeginAlikeAreOthers(Check check) {
        check.rows("set ab=0..1;set a=0..1;set ba=0..1;set abab=0..1;data aba=1;var b in 0..1;rule bb:1=1;", 1);
        check.rows("set abcd=0..1;set bcde=0..1;set abce=0..1;set bbcd=0..1;", 0);
    }

    static void anIndexIsNoIndexAround(Check check) {
        String s = "set s=0..1;";
        check.fault(s + "rule r for i in s,^i in s:1=1;");
        check.fault(s + "rule r for i in s:sum(^i in s:1)=1;");
        check.fault(s + "rule r for i in s:1=sum(^i in s:1);");
        check.fault(s + "rule r for j in s,i in s:sum(^i in s:1)=1;");
        check.fault(s + "goal min sum(i in s,^i in s:1);");
        check.fault(s + "goal min sum(i in s:sum(^i in s:1));");
        check.fault(s + "goal min sum(i in s:(1+sum(j in s,^i in s:1)));");
    }

    static void anIndexIsNotTheRuleItStandsIn(Check check) {
        check.fault("set s=0..1;rule r for ^r in s:1=1;");
        check.fault("set s=0..1;rule r:sum(^r in s:1)=1;");
        check.fault("set s=0..1;rule r:1=sum(i in s,^r in s:1);");
    }

    static void anIndexEndsWithItsSumOrRule(Check check) {
        String s = "set s=0..1;";
        check.rows(s + "goal min sum(i in s:i)+sum(i in s:i);", 0);
        check.rows(s + "goal min sum(i in s:i)+sum(j in s,i in s:i);", 0);
        check.rows(s + "goal min sum(i in s:sum(j in s:j)+sum(j in s:i*j));", 0);
        check.rows(s + "rule r for i in s:i=i;rule q for i in s:i=1;", 4);
        check.rows(s + "rule p for i in s:i=1;set i=0..1;", 2);
        check.rows(s + "rule p for i in s,j in s:i=j;data i=1;var j in 0..1;rule q:i=j;", 5);
        check.rows(s + "goal min sum(i in s:1);rule i:1=1;", 1);
        check.fault(s + "goal min sum(i in s:i)+^i;");
        check.fault(s + "goal min sum(i in s:i)*^i;");
        check.fault(s + "goal min sum(i in s:sum(j in s:j)+^j);");
        check.fault(s + "rule r:sum(i in s:i)=^i;");
        check.fault(s + "rule r for i in s:i=i;rule q:^i=1;");
        check.fault(s + "rule r for i in s,j in s:i=i;rule q for i in s:^j=1;");
        check.fault(s + "rule r for i in s:i=i;goal min ^i;");
        check.fault(s + "data d[s]=1 2;rule r for i in s:i=i;rule q:d[^i]=1;");
    }

    static void anIndexIsAroundOnBothSides(Check check) {
        String s = "set s=0..1;var x[s] in 0..1;";
        check.rows(s + "rule r for i in s:x[i]+i=x[i]-i;", 2);
        check.rows(s + "rule r for i in s,j in s:(x[i]+(j))=sum(k in s:x[j]+i*k);", 4);
    }

    static void aNameOfWhatIsWanted(Check check) {
        String all = "set s=0..1;data d=1;var x in 0..1;rule r:1=1;";
        for (String name : new String[] {"d", "x", "r", "q", "e", "i"}) {
            check.fault(all + "data e[^" + name + "]=1;");
            check.fault(all + "data e[s,^" + name + "]=1;");
            check.fault(all + "var e[^" + name + "] in 0..1;");
            check.fault(all + "rule q for i in ^" + name + ":1=1;");
            check.fault(all + "goal min sum(i in ^" + name + ":1);");
        }
        for (String name : new String[] {"s", "r", "q", "i"}) {
            check.fault(all + "goal min ^" + name + ";");
            check.fault(all + "rule q:^" + name + "=1;");
            check.fault(all + "rule q:1=2*^" + name + ";");
            check.fault(all + "data e[s]=1 2;goal min e[^" + name + "];");
        }
        check.fault(all + "data e[s]=1 2;goal min e[^d];");
        check.fault(all + "data e[s]=1 2;goal min e[^x];");
        check.rows(all + "goal min d+x;", 1);
    }

    static void aSetHasAtMost8Numbers(Check check) {
        for (int first : new int[] {0, 1, 5, 992, 9991}) {
            check.rows("set s=" + first + ".." + (first + 7) + ";", 0);
            check.answers(Scene.model("set s=" + first + ".." + (first + 7) + ";"), 8, "set", 0, 0);
            check.fault("set s=" + first + "..^" + (first + 8) + ";");
        }
        check.rows("set s=9992..9999;", 0);
        check.fault("set s=9992..^10000;");
        check.fault("set s=0..^9999;");
        check.fault("set s=1 .. ^9 @");
        check.fault("set s=1 .. ^9");
    }

    static void aSetHasNoneIfTheSecondIsTheFirstLess1(Check check) {
        for (int first : new int[] {1, 2, 10, 9999}) {
            check.rows("set s=" + first + ".." + (first - 1) + ";", 0);
            check.answers(Scene.model("set s=" + first + ".." + (first - 1) + ";"), 0, "set", 0, 0);
            check.rows("set s=" + first + ".." + first + ";", 0);
            check.answers(Scene.model("set s=" + first + ".." + first + ";"), 1, "set", 0, 0);
        }
        check.rows("set s=0..0;", 0);
    }

    static void aSetsSecondIsNotBelowTheFirstLess1(Check check) {
        check.fault("set s=2..^0;");
        check.fault("set s=3..^1;");
        check.fault("set s=9999..^9997;");
        check.fault("set s=9999..^0;");
        check.fault("set s=2 .. ^0 @");
        check.fault("set s=2 .. ^0");
    }

    static void anOfHasUpToTwoSets(Check check) {
        String s = "set s=0..1;set t=0..0;";
        for (String told : new String[] {"data d", "var d"}) {
            String end = told.startsWith("d") ? "=1 2;" : " in 0..1;";
            check.rows(s + told + "[s]" + end, 0);
            check.rows(s + told + "[s,t]" + end, 0);
            check.rows(s + told + "[t,s]" + end, 0);
            check.fault(s + told + "[^]" + end);
            check.fault(s + told + "[s,s^,t]" + end);
            check.fault(s + told + "[s,^]" + end);
            check.fault(s + told + "[^,s]" + end);
            check.fault(s + told + "[s ^t]" + end);
            check.fault(s + told + "[s^;");
            check.fault(s + told + "[^1]" + end);
            check.fault(s + told + "[s]^[t]" + end);
            check.fault(s + told + "^(s)" + end);
            check.fault(s + told + "[^-s]" + end);
        }
        check.rows(s + "data d[s,s]=1 2 3 4;", 0);
        check.fault(s + "data d[^=1;");
        check.fault(s + "data d[s,^=1 2;");
        check.fault(s + "data d[s^=1 2;");
        check.fault(s + "var d[^in 0..1;");
        check.fault(s + "var d[s,^in 0..1;");
        check.fault(s + "var d[s ^in 0..1;");
    }

    static void aValueIsANumberOrMinusANumber(Check check) {
        check.rows("data d=0;", 0);
        check.rows("data d=-0;", 0);
        check.rows("data d=- 9999;", 0);
        check.fault("data d=^+1;");
        check.fault("data d=-^-1;");
        check.fault("data d=-^;");
        check.fault("data d=^(1);");
        check.fault("data d=1^+1;");
        check.fault("data d=1^*1;");
        check.fault("data c=1;data d=^c;");
        check.fault("var x in ^+1..2;");
        check.fault("var x in -^-1..2;");
        check.fault("var x in 0..-^;");
    }

    static void asManyValuesAsPlaces(Check check) {
        String s = "set s=1..3;set t=0..1;set e=1..0;set o=5..5;";
        check.rows(s + "data d=1;", 0);
        check.fault(s + "data d=^;");
        check.fault(s + "data d=1 ^2;");
        check.fault(s + "data d=1 ^-2;");
        check.rows(s + "data d[s]=1-2 3;", 0);
        check.fault(s + "data d[s]=1-2^;");
        check.fault(s + "data d[s]=1-2 3 ^4;");
        check.fault(s + "data d[s]=1^,2,3;");
        check.rows(s + "data d[s,t]=1 2 3 4 5-6;", 0);
        check.fault(s + "data d[s,t]=1 2 3 4 5^;");
        check.fault(s + "data d[s,t]=1 2 3 4 5-6^-7;");
        check.rows(s + "data d[o,o]=1;", 0);
        check.fault(s + "data d[o,o]=1 ^1;");
        check.rows(s + "data d[e]=;data f[e,s]=;data g[s,e]=;data h[e,e]=;", 0);
        check.fault(s + "data d[e]=^1;");
        check.fault(s + "data d[e,s]=^-1;");
        check.fault(s + "data d[s,e]=^1;");
    }

    static void data64ValuesAreTheMost(Check check) {
        String s = "set s=1..8;data d[s,s]=" + "7 ".repeat(63);
        check.rows(s + "7;", 0);
        check.fault(s + "^;");
        check.fault(s + "7 ^7;");
    }

    static void aSpansSecondIsNotBelowTheFirst(Check check) {
        String[] taken = {"0..0", "0..1", "-1..0", "-3..-3", "-4..-3", "3..3", "-9999..9999", "9999..9999",
            "-9999..-9999", "-0..0", "0..-0"};
        for (String span : taken) {
            check.rows("var x in " + span + ";", 0);
        }
        String[] refused = {"1..^0", "0..^-1", "-3..^-4", "9999..^-9999", "9999..^9998", "-9998..^-9999", "3..^2"};
        for (String span : refused) {
            check.fault("var x in " + span + ";");
            check.fault("var x in " + span);
            check.fault("var x in " + span + "@");
        }
    }

    static void aSpanIsToldAtItsSecondsFirstToken(Check check) {
        check.fault("var x in -3..  ^-  4;");
        check.fault("var x in -3..\n^-\n4 @");
        check.fault("var x in 3..-^;");
        check.fault("var x in 3..-^@");
        check.fault("var x in 3..-^");
        check.fault("var x in 3..-^x;");
    }

    static void aNumbersPlaceIsInItsSet(Check check) {
        String s = "set s=2..4;set t=0..0;var x[s] in 0..1;data d[t,s]=1 2 3;var y[s,t] in 0..1;goal min ";
        check.rows(s + "x[2]+x[4]+d[0,2]+d[0,4]+y[2,0]+y[4,0];", 0);
        for (String wrong : new String[] {"x[^1]", "x[^5]", "x[^0]", "x[^9999]", "d[^1,2]", "d[0,^1]", "d[0,^5]",
            "y[^1,0]", "y[^5,0]", "y[2,^1]", "y[^1,1]"}) {
            check.fault(s + wrong + ";");
            check.fault(s + "1+2*(" + wrong + ");");
        }
    }

    static void anEmptySetHasNoPlace(Check check) {
        String s = "set e=4..3;set s=3..4;var x[e] in 0..1;data d[s,e]=;goal min ";
        check.fault(s + "x[^4];");
        check.fault(s + "x[^3];");
        check.fault(s + "d[3,^4];");
        check.fault(s + "d[^2,4];");
        check.rows(s + "sum(i in e:x[i]+d[3,i]);", 0);
        check.fault(s + "sum(i in s:x[^i]);");
    }

    static void anIndexsPlaceHasNoNumberBesideTheSet(Check check) {
        String s = "set s=2..4;var x[s] in 0..1;set t=";
        for (String within : new String[] {"2..4", "2..2", "3..3", "4..4", "2..3", "3..4", "2..1", "1..0", "9..8"}) {
            check.rows(s + within + ";goal min sum(i in t:x[i]);", 0);
            check.rows(s + within + ";var y[s,s] in 0..1;goal min sum(i in t:y[2,i]+y[i,i]);", 0);
        }
        for (String beside : new String[] {"1..4", "2..5", "1..1", "5..5", "0..7", "4..5", "1..2", "9998..9999"}) {
            check.fault(s + beside + ";goal min sum(i in t:x[^i]);");
            check.fault(s + beside + ";rule r for i in t:1=x[^i];");
            check.fault(s + beside + ";var y[s,s] in 0..1;goal min sum(i in t:y[2,^i]);");
        }
    }

    static void aPlaceIsANumberOrAnIndex(Check check) {
        String s = "set s=0..2;data c=1;var x[s] in 0..1;goal min ";
        check.fault(s + "x[^-1];");
        check.fault(s + "x[1^+1];");
        check.fault(s + "x[^(1)];");
        check.fault(s + "x[^c];");
        check.fault(s + "x[^x];");
        check.fault(s + "x[^s];");
        check.fault(s + "x[^i];");
        check.fault(s + "x[^];");
        check.fault(s + "x[^in];");
        check.fault(s + "x[^12345];");
    }

    static void asManyPlacesAsTheOfHasSets(Check check) {
        String s = "set s=0..2;data a=1;data b[s]=1 2 3;var x in 0..1;var y[s] in 0..1;var z[s,s] in 0..1;goal min ";
        check.rows(s + "a+b[0]+x+y[0]+z[0,1];", 0);
        check.fault(s + "a^[0];");
        check.fault(s + "x^[0];");
        check.fault(s + "b^;");
        check.fault(s + "y^+1;");
        check.fault(s + "y^(0);");
        check.fault(s + "b[0^,1];");
        check.fault(s + "y[0^,0];");
        check.fault(s + "y[0^;");
        check.fault(s + "z^;");
        check.fault(s + "z[0^];");
        check.fault(s + "z[0,^];");
        check.fault(s + "z[0,1^,2];");
        check.fault(s + "z[0 ^1];");
        check.fault(s + "z[0,1^;");
        check.fault(s + "z[0^][1];");
        check.fault(s + "y[0]^[0];");
        check.fault("set s=0..1;goal min sum(i in s:i^[0]);");
    }

    static void aPartHasOneFactorThatHoldsVars(Check check) {
        String s = "var x in 0..1;set s=1..2;set e=1..0;var y[s] in 0..1;var z[e] in 0..1;data d=3;goal min ";
        check.rows(s + "x*2+x*d-3*x*d;", 0);
        check.rows(s + "(x+1)*2*(3)*sum(i in s:i);", 0);
        check.rows(s + "sum(i in s:i*y[i])*d*sum(i in s:d);", 0);
        check.fault(s + "x*^x;");
        check.fault(s + "x*2*^x*3;");
        check.fault(s + "2*x*d*^x;");
        check.fault(s + "x*^x*x;");
        check.fault(s + "0*x*^x;");
        check.fault(s + "x+x*^x;");
        check.fault(s + "-x*^x;");
        check.fault(s + "(x)*^(x);");
        check.fault(s + "(x-x)*^(x-x);");
        check.fault(s + "(2*(x))*^y[1];");
        check.fault(s + "sum(i in s:y[i])*^x;");
        check.fault(s + "x*^sum(i in s:y[i]);");
        check.fault(s + "x*^sum(i in s:1+x);");
        check.fault(s + "sum(i in e:z[i])*^sum(i in e:z[i]);");
        check.fault(s + "x*(2)*sum(i in s:i)*^x;");
    }

    static void aSecondHolderIsSeenBehindItsLastToken(Check check) {
        String s = "var x in 0..1;set s=1..2;var y[s] in 0..1;goal min ";
        check.fault(s + "x*^x @");
        check.fault(s + "x*^x");
        check.fault(s + "x*^x[1];");
        check.fault(s + "x*^y[1]@");
        check.fault(s + "x*^y[1]");
        check.fault(s + "x*y^@");
        check.fault(s + "x*y[^@");
        check.fault(s + "x*y[^3];");
        check.fault(s + "x*y[1^@");
        check.fault(s + "x*y[1^,2];");
        check.fault(s + "x*^(x)@");
        check.fault(s + "x*(x^@");
        check.fault(s + "x*(x^;");
        check.fault(s + "x*(x+^q);");
        check.fault(s + "x*(x*^x);");
        check.fault(s + "x*\n^( x + 1 )");
        check.fault(s + "x*^sum(i in s:y[i])@");
        check.fault(s + "x*sum(i in s:y[i]^@");
        check.fault(s + "x*sum(i in s:y[i]^");
    }

    /** ( or sum within 8 others: 8 of them in one another are taken, the ninth is not. */
    static void eightBracketsInOneAnother(Check check) {
        check.rows("goal min " + "(".repeat(8) + "1" + ")".repeat(8) + ";", 0);
        check.fault("goal min " + "(".repeat(8) + "^(1" + ")".repeat(9) + ";");
        check.fault("goal min " + "(".repeat(8) + "^(");
        check.fault("goal min 1+" + "(".repeat(8) + "2*^(1" + ")".repeat(9) + ";");
        check.fault("goal min " + "(".repeat(8) + "1+^(1" + ")".repeat(9) + ";");
        check.fault("goal min " + "(".repeat(8) + "^(@");
        check.fault("goal min " + "(".repeat(8) + "^" + "(".repeat(100));
    }

    static void eightSumsInOneAnother(Check check) {
        String s = "set s=0..0;goal min ";
        check.rows(s + sums('a', 8) + "1" + ")".repeat(8) + ";", 0);
        check.fault(s + sums('a', 8) + "^sum(i in s:1" + ")".repeat(9) + ";");
        check.fault(s + sums('a', 8) + "^sum");
        check.fault(s + sums('a', 8) + "^sum @");
        check.fault(s + sums('a', 8) + "^(1" + ")".repeat(9) + ";");
    }

    static void eightOfBothInOneAnother(Check check) {
        String s = "set s=0..0;goal min ";
        for (int brackets = 0; brackets <= 8; brackets++) {
            String open = "(".repeat(brackets) + sums('a', 8 - brackets);
            check.rows(s + open + "1" + ")".repeat(8) + ";", 0);
            check.fault(s + open + "^(1" + ")".repeat(9) + ";");
            check.fault(s + open + "^sum(z in s:1" + ")".repeat(9) + ";");
            String other = sums('a', 8 - brackets) + "(".repeat(brackets);
            check.rows(s + other + "1" + ")".repeat(8) + ";", 0);
            check.fault(s + other + "2*^(1" + ")".repeat(9) + ";");
            check.fault(s + other + "2*^sum(z in s:1" + ")".repeat(9) + ";");
        }
    }

    /** What stands within 8 is worked out, in the goal and on both sides of a rule, with vars and without. */
    static void theEighthIsWorkedOut(Check check) {
        String s = "set s=2..3;var x in 5..5;";
        String brackets = "(".repeat(8) + "x+7" + ")".repeat(8);
        String sums = "(".repeat(7) + "sum(i in s:i*x+i*10" + ")".repeat(8);
        String outer = "sum(i in s:" + "(".repeat(7) + "i*x+i*10" + ")".repeat(8);
        for (String deep : new String[] {brackets, sums, outer}) {
            long factor = deep.equals(brackets) ? 1 : 5;
            long without = deep.equals(brackets) ? 7 : 50;
            Scene x = Scene.model(s + "rule a:" + deep + "=0;rule b:0=" + deep + ";goal min " + deep + ";");
            check.answers(x, factor, "factor", 0, 0);
            check.answers(x, -without, "right", 0);
            check.answers(x, -factor, "factor", 1, 0);
            check.answers(x, without, "right", 1);
            check.answers(x, factor, "price", 0);
            check.answers(x, without, "price", -1);
        }
        String numbers = "(".repeat(7) + "sum(i in s:i" + ")".repeat(8);
        Scene x = Scene.model(s + "rule a:x*" + numbers + "=" + numbers + ";goal min " + numbers + "*x;");
        check.answers(x, 5, "factor", 0, 0);
        check.answers(x, 5, "right", 0);
        check.answers(x, 5, "price", 0);
    }

    static void whatIsClosedIsNotAround(Check check) {
        String eight = "(".repeat(8) + "1" + ")".repeat(8);
        check.rows("goal min " + eight + "*" + eight + "-" + eight + ";", 0);
        check.rows("rule r:" + eight + "=" + eight + ";rule q:" + eight + "=" + eight + ";", 2);
        check.rows("goal min ((((((((1)+(2))*(3))))))+((4)));", 0);
        check.rows("set s=0..0;rule r for z in s,y in s:" + sums('a', 8) + "z*y" + ")".repeat(8) + "=1;", 1);
    }

    static void eighteenIndicesAround(Check check) {
        StringBuilder text = new StringBuilder("set s=1..1;rule r for x in s,y in s:");
        StringBuilder all = new StringBuilder("x*y");
        for (char c = 'a'; c < 'q'; c += 2) {
            char next = (char) (c + 1);
            text.append("sum(").append(c).append(" in s,").append(next).append(" in s:");
            all.append('+').append(c).append('*').append(next);
        }
        check.rows(text.toString() + all + ")".repeat(8) + "=9;", 1);
        check.answers(Scene.model(text.toString() + all + ")".repeat(8) + "=9;"), 0, "right", 0);
        check.fault(text + "1" + ")".repeat(8) + "=^p;");
    }

    private static String sums(char first, int many) {
        StringBuilder text = new StringBuilder();
        for (int i = 0; i < many; i++) {
            text.append("sum(").append((char) (first + i)).append(" in s:");
        }
        return text.toString();
    }
}
