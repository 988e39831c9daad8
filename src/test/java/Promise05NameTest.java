/** Promise 5, name: letter i of the NAME of the k-th set (sort = 0), data (1), var (2), rule (3). UNKNOWN. */
public final class Promise05NameTest {
    private static final int UNKNOWN = ProblemTexts.UNKNOWN;
    private static final String TEXT = "set s=1..2;set tt=0..1;data ccc=1;data dddd=2;var x in 0..1;var yz in 0..1;"
            + "var abcd in 0..1;rule r for i in s:i=1;rule azaz:1=1;";
    private static final String[][] NAMES = {{"s", "tt"}, {"ccc", "dddd"}, {"x", "yz", "abcd"}, {"r", "azaz"}};

    public static void main(String[] args) throws IllegalAccessException {
        Check.run(Promise05NameTest.class);
    }

    static void eachLetterOfEachName(Check check) {
        Scene x = Scene.model(TEXT);
        for (int sort = 0; sort < 4; sort++) {
            for (int k = 0; k < NAMES[sort].length; k++) {
                for (int i = 0; i < NAMES[sort][k].length(); i++) {
                    check.answers(x, NAMES[sort][k].charAt(i), "name", sort, k, i);
                }
            }
        }
    }

    static void noLetterBehindTheLast(Check check) {
        Scene x = Scene.model(TEXT);
        for (int sort = 0; sort < 4; sort++) {
            for (int k = 0; k < NAMES[sort].length; k++) {
                int letters = NAMES[sort][k].length();
                for (int i : new int[] {letters, letters + 1, 4, 8, 32, Check.MOST}) {
                    check.refuses(x, UNKNOWN, "name", sort, k, i);
                }
            }
        }
    }

    static void noLetterAheadOfTheFirst(Check check) {
        Scene x = Scene.model(TEXT);
        for (int sort = 0; sort < 4; sort++) {
            for (int k = 0; k < NAMES[sort].length; k++) {
                for (int i : new int[] {-1, -4, Check.LEAST}) {
                    check.refuses(x, UNKNOWN, "name", sort, k, i);
                }
            }
        }
    }

    static void noThingBesideTheFirstAndTheLast(Check check) {
        Scene x = Scene.model(TEXT);
        for (int sort = 0; sort < 4; sort++) {
            int things = NAMES[sort].length;
            for (int k : new int[] {-1, Check.LEAST, things, things + 1, 6, 10, Check.MOST}) {
                check.refuses(x, UNKNOWN, "name", sort, k, 0);
            }
        }
    }

    static void sortsAre0To3(Check check) {
        Scene x = Scene.model(TEXT);
        for (int sort : new int[] {-1, 4, 5, Check.LEAST, Check.MOST}) {
            check.refuses(x, UNKNOWN, "name", sort, 0, 0);
            check.refuses(UNKNOWN, "name", sort, 0, 0);
        }
    }

    static void theSixthOfEachAndTheTenthRule(Check check) {
        Scene x = Scene.model("set a=1..0;set b=1..0;set c=1..0;set d=1..0;set e=1..0;set f=1..0;"
                + "data g=1;data h=1;data i=1;data j=1;data k=1;data l=1;var m in 0..1;var n in 0..1;var o in 0..1;"
                + "var p in 0..1;var q in 0..1;var r in 0..1;rule s:1=1;rule t:1=1;rule u:1=1;rule v:1=1;rule w:1=1;"
                + "rule x:1=1;rule y:1=1;rule z:1=1;rule aa:1=1;rule ab:1=1;");
        check.answers(x, 'f', "name", 0, 5, 0);
        check.refuses(x, UNKNOWN, "name", 0, 6, 0);
        check.answers(x, 'l', "name", 1, 5, 0);
        check.refuses(x, UNKNOWN, "name", 1, 6, 0);
        check.answers(x, 'r', "name", 2, 5, 0);
        check.refuses(x, UNKNOWN, "name", 2, 6, 0);
        check.answers(x, 'b', "name", 3, 9, 1);
        check.refuses(x, UNKNOWN, "name", 3, 10, 0);
    }

    static void thingsWithoutPlacesHaveNames(Check check) {
        Scene x = Scene.model("set e=1..0;data d[e]=;var xy[e,e] in 0..1;rule r for i in e:1=1;");
        check.answers(x, 'e', "name", 0, 0, 0);
        check.answers(x, 'd', "name", 1, 0, 0);
        check.answers(x, 'y', "name", 2, 0, 1);
        check.answers(x, 'r', "name", 3, 0, 0);
    }

    static void namesOfEarlierModelsHaveGone(Check check) {
        String many = "set a=1..0;set b=1..0;data c=1;data d=1;var f in 0..1;var g in 0..1;rule h:1=1;rule k:1=1;";
        String few = "set l=1..0;data m=1;var n in 0..1;rule o:1=1;";
        Scene x = Scene.fresh();
        for (int i = 0; i < 5; i++) {
            x = x.feed(many).and("read");
            check.answers(x.feed(few).and("read"), 'o', "name", 3, 0, 0);
            for (int sort = 0; sort < 4; sort++) {
                check.refuses(x.feed(few).and("read"), UNKNOWN, "name", sort, 1, 0);
                check.refuses(x.feed(few).and("read").feed(few).and("read"), UNKNOWN, "name", sort, 1, 0);
                check.refuses(x.and("read"), UNKNOWN, "name", sort, 0, 0);
                check.refuses(x.and("read").and("read"), UNKNOWN, "name", sort, 0, 0);
            }
        }
    }

    static void namesOfARefusedTextAreNotTold(Check check) {
        Scene x = Scene.model("rule r:1=1;").feed("set a=0..1;data b=1;var c in 0..1;rule d:1=1;@").and("read");
        check.answers(x, 'r', "name", 3, 0, 0);
        for (int sort = 0; sort < 3; sort++) {
            check.refuses(x, UNKNOWN, "name", sort, 0, 0);
        }
    }
}
