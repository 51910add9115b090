/** The boundaries of the operations 25 to 41: of texts, and of what is told of any value. */
public final class TextBoundaryTests {
    private static final String MOST = "999999999999999999";

    private static String times(String word, int count) {
        return (word + " ").repeat(count);
    }

    private static void dueOfTextsAlone(String behind) {
        for (String other : new String[] {"'ab'^1", "1", "1.0", "?1", ":1", "true", "ERROR"}) {
            Due.gives(other + " " + behind, "ERROR");
        }
    }

    /** 25 "how many bytes". */
    private static void howManyBytes() {
        for (int n : new int[] {0, 1, 63, 64}) {
            Due.gives("'" + "x".repeat(n) + "' #25", "" + n);
            Due.gives("'" + "x".repeat(n) + "'@7 #25", "" + n);
        }
        dueOfTextsAlone("#25");
    }

    private static void duePart(String s, String n, String want) {
        Due.gives("'abc' " + s + " " + n + " #26", "'" + want + "'");
        Due.gives("'abc'@7 " + s + " " + n + " #26", "'" + want + "'@7");
    }

    /** 26: "its bytes at places p (from 1) with s <= p < s + n". */
    private static void partsOfTexts() {
        duePart("1", "3", "abc");
        duePart("1", "4", "abc");
        duePart("1", "2", "ab");
        duePart("1", "1", "a");
        duePart("1", "0", "");
        duePart("1", "-1", "");
        duePart("0", "1", "");
        duePart("0", "2", "a");
        duePart("0", "3", "ab");
        duePart("0", "4", "abc");
        duePart("-1", "2", "");
        duePart("-1", "3", "a");
        duePart("2", "1", "b");
        duePart("2", "2", "bc");
        duePart("2", "3", "bc");
        duePart("3", "1", "c");
        duePart("3", "0", "");
        duePart("4", "1", "");
        duePart("4", "-2", "");
        duePart("1", MOST, "abc");
        duePart("3", MOST, "c");
        duePart("4", MOST, "");
        duePart(MOST, MOST, "");
        duePart(MOST, "-" + MOST, "");
        duePart("-" + MOST, MOST, "");
        duePart("-999999999999999998", MOST, "");
        duePart("-999999999999999997", MOST, "a");
        duePart("-999999999999999996", MOST, "ab");
        duePart("-" + MOST, "-" + MOST, "");
        duePart("4294967297", "1", "");
        duePart("1", "4294967296", "abc");
        duePart("-4294967295", "4294967297", "a");
        Due.gives("'' 1 1 #26", "''");
        Due.gives("'' 0 2 #26", "''");
        String x64 = "x".repeat(63) + "y";
        Due.gives("'" + x64 + "' 1 64 #26", "'" + x64 + "'");
        Due.gives("'" + x64 + "' 64 1 #26", "'y'");
        Due.gives("'" + x64 + "' 65 1 #26", "''");
        dueOfTextsAlone("1 1 #26");
        for (String other : new String[] {"1.0", "'1'", "'1'@1", "'1'^1", "?1", ":1", "true", "ERROR"}) {
            Due.gives("'abc' " + other + " 1 #26", "ERROR");
            Due.gives("'abc' 1 " + other + " #26", "ERROR");
        }
    }

    /** 27 "in capitals", 28 "in small letters": the bytes beside a, z, A and Z stay. */
    private static void lettersOfTexts() {
        Due.gives("'`az{' #27", "'`AZ{'");
        Due.gives("'@AZ[' #27", "'@AZ['");
        Due.gives("'@AZ[' #28", "'@az['");
        Due.gives("'`az{' #28", "'`az{'");
        Due.gives("'`az{@AZ[09\u0001\u007f'@99 #27", "'`AZ{@AZ[09\u0001\u007f'@99");
        Due.gives("'`az{@AZ[09\u0001\u007f'@0 #28", "'`az{@az[09\u0001\u007f'@0");
        for (int operation = 27; operation <= 28; operation++) {
            Due.gives("'' #" + operation, "''");
            Due.gives("''@5 #" + operation, "''@5");
            String all = (operation == 27 ? "q" : "Q").repeat(64);
            String turned = (operation == 27 ? "Q" : "q").repeat(64);
            Due.gives("'" + all + "' #" + operation, "'" + turned + "'");
            dueOfTextsAlone("#" + operation);
        }
    }

    /** 29: "a (0 .. 20) texts one behind the other", "of kind 6 if all are, with one tag, else 5", "more than 64 bytes: ERROR". */
    private static void textsBehindTexts() {
        Due.gives("#29/0", "''");
        Due.gives("'a' #29/1", "'a'");
        Due.gives("'a'@0 #29/1", "'a'@0");
        Due.gives("'a'@99 #29/1", "'a'@99");
        Due.gives("'a' 'b' #29/2", "'ab'");
        Due.gives("'a'@7 'b'@7 #29/2", "'ab'@7");
        Due.gives("'a'@7 'b'@8 #29/2", "'ab'");
        Due.gives("'a'@7 'b' #29/2", "'ab'");
        Due.gives("'a' 'b'@7 #29/2", "'ab'");
        Due.gives("'a' 'b'@0 #29/2", "'ab'");
        Due.gives("'a'@0 'b' #29/2", "'ab'");
        Due.gives("'' '' #29/2", "''");
        Due.gives("''@7 ''@7 #29/2", "''@7");
        Due.gives(times("'x'@3", 20) + "#29/20", "'" + "x".repeat(20) + "'@3");
        Due.gives(times("'x'@3", 19) + "'x'@4 #29/20", "'" + "x".repeat(20) + "'");
        Due.gives(times("'x'@3", 19) + "'x' #29/20", "'" + "x".repeat(20) + "'");
        Due.gives(times("'x'@3", 19) + "'x'^3 #29/20", "ERROR");
        String x64 = "x".repeat(64);
        for (String tag : new String[] {"", "@7"}) {
            Due.gives("'" + x64 + "'" + tag + " ''" + tag + " #29/2", "'" + x64 + "'" + tag);
            Due.gives("'" + x64 + "'" + tag + " 'y'" + tag + " #29/2", "ERROR");
            Due.gives("'y'" + tag + " '" + x64 + "'" + tag + " #29/2", "ERROR");
            Due.gives("'" + x64.substring(1) + "'" + tag + " 'y'" + tag + " #29/2",
                    "'" + x64.substring(1) + "y'" + tag);
        }
        Due.gives("'" + x64 + "' '" + x64 + "' #29/2", "ERROR");
        Due.gives(times("'" + x64 + "'", 20) + "#29/20", "ERROR");
        Due.gives(times("'" + "x".repeat(16) + "'", 4) + "#29/4", "'" + x64 + "'");
        dueOfTextsAlone("#29/1");
        dueOfTextsAlone("'a' #29/2");
        dueOfTextsAlone("'a'@7 #29/2");
    }

    private static void dueSought(String text, String sought, boolean begins, boolean ends, boolean has) {
        Due.gives(text + " " + sought + " #30", "" + begins);
        Due.gives(text + " " + sought + " #31", "" + ends);
        Due.gives(text + " " + sought + " #32", "" + has);
    }

    /** 30 "begins with", 31 "ends with", 32 "has within": from no bytes to one byte more than there are. */
    private static void seeking() {
        dueSought("'abc'", "''", true, true, true);
        dueSought("''", "''", true, true, true);
        dueSought("''", "'a'", false, false, false);
        dueSought("'abc'", "'a'", true, false, true);
        dueSought("'abc'", "'b'", false, false, true);
        dueSought("'abc'", "'c'", false, true, true);
        dueSought("'abc'", "'ab'", true, false, true);
        dueSought("'abc'", "'bc'", false, true, true);
        dueSought("'abc'", "'ac'", false, false, false);
        dueSought("'abc'", "'abc'", true, true, true);
        dueSought("'abc'", "'abd'", false, false, false);
        dueSought("'abc'", "'xbc'", false, false, false);
        dueSought("'abc'", "'abcd'", false, false, false);
        dueSought("'abc'", "'xabc'", false, false, false);
        dueSought("'aba'", "'a'", true, true, true);
        dueSought("'aab'", "'ab'", false, true, true);
        dueSought("'abcabd'", "'abd'", false, true, true);
        dueSought("'abc'", "'A'", false, false, false);
        String x63 = "x".repeat(63);
        dueSought("'" + x63 + "y'", "'" + x63 + "y'", true, true, true);
        dueSought("'" + x63 + "y'", "'" + x63 + "x'", false, false, false);
        dueSought("'" + x63 + "y'", "'" + x63 + "'", true, false, true);
        dueSought("'" + x63 + "y'", "'" + x63.substring(1) + "y'", false, true, true);
        dueSought("'" + x63 + "'", "'" + x63 + "x'", false, false, false);
    }

    private static void dueCut(String bytes, String sought, String before, String behind) {
        for (String[] tags : new String[][] {{"", ""}, {"@7", ""}, {"@7", "@7"}}) {
            String both = "'" + bytes + "'" + tags[0] + " '" + sought + "'" + tags[1];
            Due.gives(both + " #33", "'" + before + "'" + tags[0]);
            Due.gives(both + " #34", "'" + behind + "'" + tags[0]);
        }
    }

    /** 33 "what is before the first place where it is within", 34 "what is behind it (no bytes, kind 5, when it is not)". */
    private static void cutting() {
        dueCut("abc", "", "", "abc");
        dueCut("", "", "", "");
        dueCut("abc", "a", "", "bc");
        dueCut("abc", "b", "a", "c");
        dueCut("abc", "c", "ab", "");
        dueCut("abc", "bc", "a", "");
        dueCut("abc", "abc", "", "");
        dueCut("abab", "ab", "", "ab");
        dueCut("aab", "ab", "a", "");
        dueCut("xabyab", "ab", "x", "yab");
        dueCut("aaa", "aa", "", "a");
        String x62 = "x".repeat(62);
        dueCut("y" + x62 + "z", "y", "", x62 + "z");
        dueCut("y" + x62 + "z", "z", "y" + x62, "");
        for (String text : new String[] {"'abc'", "'abc'@7", "''", "''@7"}) {
            for (String sought : new String[] {"'d'", "'abcd'", "'ac'"}) {
                Due.gives(text + " " + sought + " #33", "''");
                Due.gives(text + " " + sought + " #34", "''");
            }
        }
        Due.gives("'abc'@7 'd'@7 #33", "''");
        Due.gives("'abc'@7 'd'@7 #34", "''");
    }

    /** "For 30 .. 34 the second one has to be of kind 5, or of 6 as the first one, with the same tag". */
    private static void kindsOfWhatIsSought() {
        String[] right = {"'ab' 'b'", "'ab'@0 'b'", "'ab'@0 'b'@0", "'ab'@99 'b'@99"};
        String[] wrong = {"'ab' 'b'@0", "'ab' 'b'@1", "'ab'@0 'b'@1", "'ab'@98 'b'@99", "'ab' 'b'^0", "'ab'@0 'b'^0",
            "'ab' 1", "'ab' 1.0", "'ab' ?1", "'ab' :1", "'ab' true", "'ab' ERROR", "ERROR 'b'", "'ab'^0 'b'^0",
            "'ab'^0 'b'@0", "1 1", "true 'true'", "'ab'@1 1"};
        for (int operation = 30; operation <= 34; operation++) {
            for (String both : right) {
                Desk d = new Desk();
                d.express(both + " #" + operation);
                Due.is(both + " #" + operation + " is a value", d.run() > 0, true);
            }
            for (String both : wrong) {
                Due.gives(both + " #" + operation, "ERROR");
            }
            dueOfTextsAlone("'b' #" + operation);
        }
    }

    private static void dueTold(String value, String tag, String type) {
        Due.gives(value + " #36", tag);
        Due.gives(value + " #37", type);
    }

    /** 36 "of kind 6 the tag's digits, of 3 .. 8 else no bytes (ERROR for 1, 2)", and 37 likewise a name. */
    private static void tagsAndTypes() {
        dueTold("?0", "ERROR", "ERROR");
        dueTold("?9999", "ERROR", "ERROR");
        dueTold(":0", "ERROR", "ERROR");
        dueTold(":9999", "ERROR", "ERROR");
        dueTold("0", "''", ":1002");
        dueTold("-5", "''", ":1002");
        dueTold("0.0", "''", ":1003");
        dueTold("0.5", "''", ":1003");
        dueTold("''", "''", ":1000");
        dueTold("'a'", "''", ":1000");
        dueTold("''@0", "'0'", ":1001");
        dueTold("'a'@9", "'9'", ":1001");
        dueTold("'a'@10", "'10'", ":1001");
        dueTold("'a'@99", "'99'", ":1001");
        dueTold("''^0", "''", ":0");
        dueTold("'a'^9", "''", ":9");
        dueTold("'a'^10", "''", ":10");
        dueTold("'a'^99", "''", ":99");
        dueTold("true", "''", ":1004");
        dueTold("false", "''", ":1004");
        dueTold("ERROR", "ERROR", "ERROR");
    }

    /** "38 39 40 41 whether it is of kind 2; 1; 3 .. 8; 3 or 4". */
    private static void kinds() {
        String[] one = {"?0", ":0", "0", "0.0", "''", "''@0", "''^0", "false"};
        for (int kind = 1; kind <= 8; kind++) {
            Due.gives(one[kind - 1] + " #38", "" + (kind == 2));
            Due.gives(one[kind - 1] + " #39", "" + (kind == 1));
            Due.gives(one[kind - 1] + " #40", "" + (kind >= 3));
            Due.gives(one[kind - 1] + " #41", "" + (kind == 3 || kind == 4));
        }
        for (int operation = 35; operation <= 41; operation++) {
            Due.gives("ERROR #" + operation, "ERROR");
        }
    }

    /** "More than 64 bytes: ERROR", and what comes behind a long or refused text is as it is on a new object. */
    private static void shorterTexts() {
        String x64 = "x".repeat(64);
        String[] written = {"'" + x64 + "' 'y' #29/2", "'a' 'b' #29/2", "'" + x64 + "' #28", "'A' #28", "'ab' 1 1 #26",
            "'" + x64 + "' 'y' #29/2", "5 #35", "'" + x64 + "' #35", "'c'@7 #36", "'ab' 'z' #33", "1 #36", "'ab' 'a' #34"};
        String[] want = {"ERROR", "'ab'", "'" + x64 + "'", "'a'", "'a'", "ERROR", "'5'", "'" + x64 + "'", "'7'", "''",
            "''", "'b'"};
        Desk d = new Desk();
        for (int i = 0; i < written.length; i++) {
            d.express(written[i]);
            Due.isValue(written[i] + " behind others", d, d.run(), want[i]);
        }
    }

    public static void main(String[] args) {
        howManyBytes();
        partsOfTexts();
        lettersOfTexts();
        textsBehindTexts();
        seeking();
        cutting();
        kindsOfWhatIsSought();
        tagsAndTypes();
        kinds();
        shorterTexts();
        Due.end("TextBoundaryTests");
    }
}
