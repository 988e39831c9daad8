/** Promise 4, read: the TOKENS of THE TEXT, and what is none. */
public final class Promise04TokensTest {
    private static final String[] WORDS = {"set", "data", "var", "rule", "goal", "min", "max", "sum", "in", "for"};
    private static final String SIGNS = "= <= >= + - * ( ) [ ] , ; : ..";

    public static void main(String[] args) throws IllegalAccessException {
        Check.run(Promise04TokensTest.class);
    }

    static void blanksAndLineEndsStandBetweenOrNot(Check check) {
        String tokens = "set s = 1 .. 2 ; data d [ s ] = - 3 4 ; var x [ s ] in - 1 .. 5 ; "
                + "rule r for i in s : - 2 * ( x [ i ] + d [ i ] ) <= sum ( j in s : j ) ; goal max x [ 1 ] - 7 ;";
        String want = Scene.model(tokens).everything();
        check.due("with line ends", Scene.model(tokens.replace(' ', '\n')).everything(), want);
        check.due("with both", Scene.model("\n " + tokens.replace(" ", " \n") + " \n").everything(), want);
        String tight = tokens.replaceAll("(?<![a-z0-9]) | (?![a-z0-9])", "");
        check.due("without", Scene.model(tight).everything(), want);
        check.due("bytes without", tight.length() < 120 ? 1 : 0, 1);
    }

    static void aTextOfBlanksAndLineEndsHasNoTokens(Check check) {
        check.rows("", 0);
        check.rows(" ", 0);
        check.rows("\n", 0);
        check.rows(" \n\n ", 0);
        check.rows(" ".repeat(400), 0);
        check.rows("\n".repeat(400), 0);
    }

    /** Each byte behind "goal min 1" and ahead of ";", seen to be what it is by where the FAULT is, if any. */
    static void eachByteIsAToken(Check check) {
        for (int b = 0; b <= 255; b++) {
            String text = "goal min 1" + (char) b + ";";
            boolean between = b == 32 || b == 10 || b >= '0' && b <= '9';
            boolean goesOn = b == '+' || b == '-' || b == '*' || b == ';';
            if (between) {
                check.rows(text, 0);
            } else {
                check.stays(text, goesOn ? -21 : -20);
            }
        }
    }

    /** Bytes beside 10 and 32, the letters' and the digits' first and last ones, and above 127. */
    static void otherBytesAreNone(Check check) {
        for (int b : new int[] {0, 9, 11, 13, 31, 33, '/', '`', '{', '@', 'A', 'Z', '^', '_', 127, 128, 160, 138, 255}) {
            check.stays(String.valueOf((char) b), -10);
            check.stays(" \n" + (char) b, -12);
            check.stays("set" + (char) b + "s=0..1;", -13);
            check.stays("set s" + (char) b + "=0..1;", -15);
            check.stays("set s=1" + (char) b + "..2;", -17);
        }
    }

    static void namesHave1To4Letters(Check check) {
        for (String name : new String[] {"a", "z", "az", "zza", "aaaa", "zzzz"}) {
            check.rows("rule " + name + ":1=1;", 1);
            check.due("its NAME", Scene.model("rule " + name + ":1=1;").name(3, 0), name);
        }
        check.fault("rule ^:1=1;");
        check.fault("rule ^aaaaa:1=1;");
        check.fault("rule ^zzzzzzzzzz:1=1;");
        check.fault("rule ^" + "a".repeat(390) + ":");
    }

    static void namesAreNoWords(Check check) {
        for (String word : WORDS) {
            check.fault("set ^" + word + "=0..1;");
            check.fault("data ^" + word + "=1;");
            check.fault("var ^" + word + " in 0..1;");
            check.fault("rule ^" + word + ":1=1;");
            check.fault("set s=0..1;rule r for ^" + word + " in s:1=1;");
            if (!word.equals("sum")) {
                check.fault("goal min ^" + word + ";");
            }
        }
    }

    static void whatIsNearlyAWordIsAName(Check check) {
        for (String word : WORDS) {
            check.rows("rule " + word.substring(0, word.length() - 1) + ":1=1;", 1);
            check.rows("rule " + word.charAt(word.length() - 1) + word.substring(1) + ":1=1;", 1);
            if (word.length() < 4) {
                check.rows("rule " + word + "x:1=1;", 1);
                check.rows("rule x" + word + ":1=1;", 1);
            } else {
                check.fault("rule ^" + word + "x:1=1;");
                check.fault("rule ^x" + word + ":1=1;");
            }
        }
    }

    static void numbersHave1To4Digits(Check check) {
        String[] numbers = {"0", "9", "10", "099", "0000", "0001", "9999"};
        for (String number : numbers) {
            check.rows("data d=" + number + ";", 0);
            check.answers(Scene.model("data d=" + number + ";"), Integer.parseInt(number), "data", 0, 0, 0);
        }
        check.fault("data d=^;");
        check.fault("data d=^00000;");
        check.fault("data d=^10000;");
        check.fault("data d=-^10000;");
        check.fault("data d=^99999999999999999999;");
    }

    static void lettersAreTakenAsLongAsCanBe(Check check) {
        check.fault("^sets=0..1;");
        check.fault("^setss=0..1;");
        check.fault("set s=0..1;rule r ^fori in s:1=1;");
        check.fault("set s=0..1;rule r for i ^ins:1=1;");
        check.fault("goal ^minx;");
        check.fault("goal ^minxy;");
        check.fault("set s=0..1;goal min sum(i in s:1)+^sums(j in s:1);");
        check.fault("var xin ^0..1;");
    }

    static void digitsAreTakenAsLongAsCanBe(Check check) {
        check.fault("set s=0..1;data d[s]=^12345;");
        check.rows("set s=0..1;data d[s]=1234 5;", 0);
        check.fault("set s=0..1;data d[s]=1234^;");
    }

    static void lettersAndDigitsEndEachOther(Check check) {
        check.rows("goal min1;", 0);
        check.rows("set s=0..1;goal min sum(i in s:2*i);", 0);
        check.rows("var x in0..1;", 0);
        check.fault("set a^1=0..1;");
        check.fault("set a=1^a..2;");
        check.fault("set aaaa^1111=0..1;");
        check.fault("set a=1111^aaaa..2;");
        check.fault("data d=1^a1;");
    }

    static void eachSignIsTaken(Check check) {
        check.rows("set s=0..1;data d[s]=-1 2;var x[s] in 0..1;var y[s,s] in 0..1;"
                + "rule p:(d[0])*x[1]+1-2<=0;rule q:1>=y[0,1];rule r:1=1;", 3);
    }

    /** No declaration begins with a SIGN, and none of them ends one but ; alone. */
    static void eachSignHasItsPlace(Check check) {
        for (String sign : SIGNS.split(" ")) {
            check.stays(sign, -10);
            check.stays("rule r:1=1;" + sign, -21);
            if (!sign.equals(";") && !sign.equals("+") && !sign.equals("-") && !sign.equals("*")) {
                check.stays("rule r:1=1" + sign, -20);
            }
        }
    }

    static void lessAndMoreAloneAreNone(Check check) {
        check.rows("rule r:1<=2;", 1);
        check.rows("rule r:1>=2;", 1);
        check.fault("rule r:1^<2;");
        check.fault("rule r:1^>2;");
        check.fault("rule r:1^< =2;");
        check.fault("rule r:1^>\n=2;");
        check.fault("rule r:1^<>2;");
        check.fault("rule r:1^<<=2;");
        check.fault("rule r:1=^<2;");
        check.fault("rule r:1=^>2;");
        check.fault("rule r:1<=^=2;");
        check.fault("rule r:1>=^=2;");
        check.fault("rule r:1<=^>=2;");
        check.fault("rule r:1^<");
        check.fault("rule r:1^>");
    }

    static void aPointAloneIsNone(Check check) {
        check.rows("set s=0..1;", 0);
        check.fault("set s=0^.1;");
        check.fault("set s=0^. .1;");
        check.fault("set s=0^.\n.1;");
        check.fault("set s=0..^.1;");
        check.fault("set s=0..^..1;");
        check.fault("set s=0^.");
        check.fault("set s=0..^");
        check.fault("set s=0^.;");
    }

    static void theFirstByteOfWhatIsNoneIsTold(Check check) {
        check.fault("rule r:1=1; ^abcde");
        check.fault("rule r:1=1; ^12345");
        check.fault("rule r:1=1; ^<<<<");
        check.fault("rule r:1=1;\n\n^\u00e4\u00e4");
        check.fault("data d=1 ^abcde;");
        check.fault("data d=^abcde;");
    }

    static void asManyTokensAsBytes(Check check) {
        check.fault("^" + ";".repeat(400));
        check.fault("^" + "1+".repeat(200));
        check.fault("^" + "@".repeat(400));
        check.fault("^" + "a1".repeat(200));
    }

    static void theFirstWrongTokenIsToldAheadOfLaterOnes(Check check) {
        check.fault("set s ^@@@");
        check.fault("set ^1 abcde 12345 . <");
        check.fault("^x @");
        check.fault("^@ x");
        check.fault("set s=1..^9 @");
        check.fault("goal min 1;^goal @");
    }
}
