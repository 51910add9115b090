/** The boundaries of TRUTH, EQUAL and LESS, STRING and RECKONING, as expressions show them. */
public final class TermBoundaryTests {
    private static final int ERROR = -4;
    private static final String MOST = "999999999999999999";
    private static final String[] ONE_OF_EACH_OTHER = {"?3", ":3", "'3'", "'3'@3", "'3'^3", "true", "ERROR"};

    private static void dueTruth(String value, int want) {
        Desk d = new Desk();
        d.express(value);
        Due.is("truth of " + value, d.test(), want);
        String not = want == ERROR ? "ERROR" : want == 1 ? "false" : "true";
        String itself = want == ERROR ? "ERROR" : want == 1 ? "true" : "false";
        Due.gives(value + " #3", not);
        Due.gives(value + " true #4", itself);
        Due.gives("false " + value + " #5", itself);
        Due.gives(value + " ?1 ?2 #22", want == ERROR ? "ERROR" : want == 1 ? "?1" : "?2");
    }

    /** "Of 8 itself; of 3 and 4 that it is not 0; of 5 that it has bytes; else ERROR". */
    private static void truthOfValues() {
        dueTruth("false", 0);
        dueTruth("true", 1);
        dueTruth("-1", 1);
        dueTruth("0", 0);
        dueTruth("1", 1);
        dueTruth("-" + MOST, 1);
        dueTruth(MOST, 1);
        dueTruth("4294967296", 1);
        dueTruth("-0.000000001", 1);
        dueTruth("0.0", 0);
        dueTruth("0.000000001", 1);
        dueTruth("''", 0);
        dueTruth("'\u0001'", 1);
        dueTruth("'0'", 1);
        dueTruth("'false'", 1);
        dueTruth("'" + "x".repeat(64) + "'", 1);
        dueTruth("''@0", ERROR);
        dueTruth("'a'@1", ERROR);
        dueTruth("''^0", ERROR);
        dueTruth("'a'^1", ERROR);
        dueTruth("?0", ERROR);
        dueTruth("?1", ERROR);
        dueTruth(":0", ERROR);
        dueTruth(":1", ERROR);
        dueTruth("ERROR", ERROR);
    }

    /** Both ways round, as EQUAL, as its contrary, and as IN of one. */
    private static void dueEqual(String a, String b, String want) {
        String not = want.equals("ERROR") ? "ERROR" : want.equals("true") ? "false" : "true";
        Due.gives(a + " " + b + " #6", want);
        Due.gives(b + " " + a + " #6", want);
        Due.gives(a + " " + b + " #7", not);
        Due.gives(b + " " + a + " #7", not);
        Due.gives(a + " " + b + " #24/1", want);
        Due.gives(b + " " + a + " #24/1", want);
    }

    /** EQUAL: "two of 3 and 4 by value". */
    private static void numbersAreEqualByValue() {
        dueEqual("1", "1", "true");
        dueEqual("1", "1.0", "true");
        dueEqual("1.0", "1.0", "true");
        dueEqual("1", "1.000000001", "false");
        dueEqual("1", "0.999999999", "false");
        dueEqual("1.0", "1.000000001", "false");
        dueEqual("1", "2", "false");
        dueEqual("1", "-1", "false");
        dueEqual("1.0", "-1.0", "false");
        dueEqual("0", "0.0", "true");
        dueEqual("0", "0.000000001", "false");
        dueEqual("0.0", "-0.000000001", "false");
        dueEqual("-3", "-3.0", "true");
        dueEqual("-3", "-2.999999999", "false");
        dueEqual("-3", "-3.000000001", "false");
        dueEqual("0.1", "0.01", "false");
        dueEqual("1", "0.1", "false");
        dueEqual(MOST, MOST + ".0", "true");
        dueEqual("-" + MOST, "-" + MOST + ".0", "true");
        dueEqual("999999999999999998", MOST + ".0", "false");
        dueEqual("1000000000", "999999999.999999999", "false");
        dueEqual("1000000000", "1000000000.0", "true");
        dueEqual("100000000000000000", "99999999999999999.9", "false");
    }

    /** "Else true if they are one and the same", whatever the kind; "else false". */
    private static void othersAreEqualWhenTheSame() {
        dueEqual("?5", "?5", "true");
        dueEqual("?5", "?6", "false");
        dueEqual(":5", ":5", "true");
        dueEqual(":5", ":6", "false");
        dueEqual("?5", ":5", "false");
        dueEqual("'a'", "'a'", "true");
        dueEqual("'a'", "'b'", "false");
        dueEqual("'a'", "'aa'", "false");
        dueEqual("''", "''", "true");
        dueEqual("'a'@1", "'a'@1", "true");
        dueEqual("'a'@1", "'a'@2", "false");
        dueEqual("'a'@1", "'b'@1", "false");
        dueEqual("'a'", "'a'@0", "false");
        dueEqual("'a'^1", "'a'^1", "true");
        dueEqual("true", "true", "true");
        dueEqual("true", "false", "false");
        dueEqual("false", "false", "true");
        dueEqual("1", "true", "false");
        dueEqual("0.0", "false", "false");
        dueEqual("5", "'5'", "false");
        dueEqual("5", ":5", "false");
        dueEqual("5.0", "?5", "false");
        dueEqual("5", "'5'@5", "false");
        dueEqual("true", "'true'", "false");
        dueEqual("true", "'true'@1", "false");
        dueEqual(":1", "true", "false");
    }

    /** "Else ERROR if one is of kind 7 and the other of 3 .. 8". */
    private static void typedTextsAreEqualOrErrors() {
        dueEqual("'1'^1", "?1", "false");
        dueEqual("'1'^1", ":1", "false");
        dueEqual("'1'^1", "1", "ERROR");
        dueEqual("'1'^1", "1.0", "ERROR");
        dueEqual("'1'^1", "'1'", "ERROR");
        dueEqual("'1'^1", "'1'@1", "ERROR");
        dueEqual("'1'^1", "'1'^2", "ERROR");
        dueEqual("'1'^1", "'2'^1", "ERROR");
        dueEqual("'1'^1", "true", "ERROR");
        dueEqual("'1'^1", "ERROR", "ERROR");
        dueEqual("1", "ERROR", "ERROR");
        dueEqual("?1", "ERROR", "ERROR");
        dueEqual("ERROR", "ERROR", "ERROR");
    }

    /** By all four operations, both ways round; null stands for an ERROR. */
    private static void dueLess(String a, String b, Integer sign) {
        for (int way = 0; way < 2; way++) {
            String both = way == 0 ? a + " " + b : b + " " + a;
            if (sign == null) {
                Due.each(new String[] {both + " #8", both + " #9", both + " #10", both + " #11"}, "ERROR");
                continue;
            }
            int turned = way == 0 ? sign : -sign;
            Due.gives(both + " #8", "" + (turned < 0));
            Due.gives(both + " #9", "" + (turned <= 0));
            Due.gives(both + " #10", "" + (turned > 0));
            Due.gives(both + " #11", "" + (turned >= 0));
        }
    }

    /** LESS: "two of 3 and 4 by value; two of kind 5, or of 8, by the order; else ERROR". */
    private static void lessness() {
        dueLess("1", "1", 0);
        dueLess("1", "1.0", 0);
        dueLess("1", "1.000000001", -1);
        dueLess("0.999999999", "1", -1);
        dueLess("-1", "-0.999999999", -1);
        dueLess("-1.000000001", "-1", -1);
        dueLess("-1", "-1.0", 0);
        dueLess("-0.000000001", "0", -1);
        dueLess("0", "0.0", 0);
        dueLess("0.0", "0.000000001", -1);
        dueLess("0.29", "0.3", -1);
        dueLess("999999999.999999999", "1000000000", -1);
        dueLess("99999999999999999.9", "100000000000000000.0", -1);
        dueLess("999999999999999998", MOST + ".0", -1);
        dueLess("-" + MOST, MOST, -1);
        dueLess(MOST, MOST + ".0", 0);
        dueLess("''", "''", 0);
        dueLess("''", "'\u0001'", -1);
        dueLess("'a'", "'aa'", -1);
        dueLess("'aa'", "'b'", -1);
        dueLess("'a'", "'\u007f'", -1);
        dueLess("'10'", "'9'", -1);
        dueLess("false", "true", -1);
        dueLess("false", "false", 0);
        dueLess("true", "true", 0);
        dueLess("?0", "?0", null);
        dueLess("?0", "?1", null);
        dueLess(":0", ":0", null);
        dueLess(":0", ":1", null);
        dueLess("?0", ":0", null);
        dueLess(":0", "0", null);
        dueLess("'a'", "'a'@0", null);
        dueLess("'a'@0", "'a'@0", null);
        dueLess("'a'@0", "'b'@0", null);
        dueLess("'a'^0", "'a'^0", null);
        dueLess("'a'^0", "'b'^0", null);
        dueLess("'a'@0", "'a'^0", null);
        dueLess("'1'", "1", null);
        dueLess("'1'", "1.0", null);
        dueLess("true", "1", null);
        dueLess("true", "'true'", null);
        dueLess("'a'^0", "true", null);
        for (String other : new String[] {"1", "1.0", "'a'", "true", "ERROR"}) {
            dueLess(other, "ERROR", null);
        }
    }

    /** 12: "whether they are one and the same". */
    private static void sameness() {
        for (String v : new String[] {"?1", ":1", "1", "1.0", "'1'", "'1'@1", "'1'^1", "true"}) {
            Due.gives(v + " " + v + " #12", "true");
            Due.gives(v + " ERROR #12", "ERROR");
            Due.gives("ERROR " + v + " #12", "ERROR");
        }
        Due.each(new String[] {"1 1.0 #12", "?1 :1 #12", "'1' '1'@0 #12", "'1'@0 '1'@1 #12", "'1'@1 '1'^1 #12",
            "'1'^1 '1'^2 #12", "true false #12", "1 '1' #12", "?1 ?2 #12"}, "false");
        Due.gives("ERROR ERROR #12", "ERROR");
    }

    private static void dueString(String value, String want) {
        Due.gives(value + " #35", want);
        Due.joined("'+'", false, value, want);
    }

    /** STRING of each kind: the fewest digits, the most, and what is shorter by one. */
    private static void strings() {
        dueString(":0", "'0'");
        dueString(":9", "'9'");
        dueString(":10", "'10'");
        dueString(":9999", "'9999'");
        dueString("0", "'0'");
        dueString("-1", "'-1'");
        dueString("9", "'9'");
        dueString("-10", "'-10'");
        dueString(MOST, "'" + MOST + "'");
        dueString("-" + MOST, "'-" + MOST + "'");
        dueString("100000000000000000", "'100000000000000000'");
        dueString("1000000000", "'1000000000'");
        dueString("0.0", "'0.0'");
        dueString("1.0", "'1.0'");
        dueString("-1.0", "'-1.0'");
        dueString("10.0", "'10.0'");
        dueString("0.1", "'0.1'");
        dueString("-0.1", "'-0.1'");
        dueString("0.01", "'0.01'");
        dueString("0.000000001", "'0.000000001'");
        dueString("-0.000000001", "'-0.000000001'");
        dueString("0.100000001", "'0.100000001'");
        dueString("10.01", "'10.01'");
        dueString("999999999.999999999", "'999999999.999999999'");
        dueString("-999999999.999999999", "'-999999999.999999999'");
        dueString("-99999999999999999.9", "'-99999999999999999.9'");
        dueString("-" + MOST + ".0", "'-" + MOST + ".0'");
        dueString("''", "''");
        dueString("'" + "x".repeat(64) + "'", "'" + "x".repeat(64) + "'");
        dueString("''@99", "''");
        dueString("'a'@0", "'a'");
        dueString("''^99", "''");
        dueString("'" + "x".repeat(64) + "'^0", "'" + "x".repeat(64) + "'");
        dueString("true", "'true'");
        dueString("false", "'false'");
        dueString("?0", "ERROR");
        dueString("?9999", "ERROR");
        dueString("ERROR", "ERROR");
    }

    /** "A whole and a whole give a whole, else decimals"; a quotient "always a decimal". */
    private static void kindsOfResults() {
        Due.gives("6 3 #13", "9");
        Due.gives("6.0 3 #13", "9.0");
        Due.gives("6 3.0 #13", "9.0");
        Due.gives("6.0 3.0 #13", "9.0");
        Due.gives("6 3 #14", "3");
        Due.gives("6.0 3 #14", "3.0");
        Due.gives("6 3.0 #14", "3.0");
        Due.gives("6 3 #15", "18");
        Due.gives("6.0 3 #15", "18.0");
        Due.gives("6 3.0 #15", "18.0");
        Due.gives("0 3.0 #15", "0.0");
        Due.gives("6 3 #16", "2.0");
        Due.gives("6.0 3 #16", "2.0");
        Due.gives("6 3.0 #16", "2.0");
        Due.gives("0 3 #16", "0.0");
    }

    /** "A result of 10^18 or more in size (unscaled) is ERROR": sums and differences. */
    private static void sizesOfSums() {
        Due.gives("999999999999999998 1 #13", MOST);
        Due.gives(MOST + " 0 #13", MOST);
        Due.gives(MOST + " 1 #13", "ERROR");
        Due.gives(MOST + " " + MOST + " #13", "ERROR");
        Due.gives("500000000000000000 499999999999999999 #13", MOST);
        Due.gives("500000000000000000 500000000000000000 #13", "ERROR");
        Due.gives("-999999999999999998 -1 #13", "-" + MOST);
        Due.gives("-" + MOST + " -1 #13", "ERROR");
        Due.gives(MOST + " -" + MOST + " #13", "0");
        Due.gives("999999999999999998 -1 #14", MOST);
        Due.gives(MOST + " -1 #14", "ERROR");
        Due.gives("-999999999999999998 1 #14", "-" + MOST);
        Due.gives("-" + MOST + " 1 #14", "ERROR");
        Due.gives("-" + MOST + " " + MOST + " #14", "ERROR");
        Due.gives(MOST + " " + MOST + " #14", "0");
        Due.gives("999999999999999998.0 1 #13", MOST + ".0");
        Due.gives(MOST + ".0 1 #13", "ERROR");
        Due.gives("-999999999999999998.0 1 #14", "-" + MOST + ".0");
        Due.gives("-" + MOST + ".0 1 #14", "ERROR");
        Due.gives("99999999999999999 0.9 #13", "99999999999999999.9");
        Due.gives("100000000000000000 0.1 #13", "ERROR");
        Due.gives("-99999999999999999 0.9 #14", "-99999999999999999.9");
        Due.gives("-100000000000000000 0.1 #14", "ERROR");
        Due.gives("100000000000000000 0.1 #14", "99999999999999999.9");
        Due.gives("999999999 0.999999999 #13", "999999999.999999999");
        Due.gives("1000000000 0.000000001 #13", "ERROR");
        Due.gives("1000000000 0.000000001 #14", "999999999.999999999");
        Due.gives("-1000000000 0.000000001 #13", "-999999999.999999999");
        Due.gives("-1000000000 0.000000001 #14", "ERROR");
        Due.gives("999999999.999999998 0.000000001 #13", "999999999.999999999");
        Due.gives("999999999.999999999 0.000000002 #13", "ERROR");
        Due.gives("99999999999999999.9 0.2 #13", "ERROR");
    }

    /** UNSCALED is told with the least scale, so that a result without digits behind the dot has room for more. */
    private static void sizesWithTheLeastScale() {
        Due.gives("999999999.999999999 0.000000001 #13", "1000000000.0");
        Due.gives("-999999999.999999999 0.000000001 #14", "-1000000000.0");
        Due.gives("99999999999999999.9 0.1 #13", "100000000000000000.0");
        Due.gives("999999999.999999999 999999999.999999999 #15", "999999999999999998.0");
        Due.gives("1999999999.99999999 2 #16", "999999999.999999995");
        Due.gives("19999999.999999999 0.02 #16", "999999999.99999995");
        Due.gives("999999999.999999999 0.999999999 #16", "1000000001.0");
        Due.gives(MOST + " 999999999 #16", "1000000001.0");
        Due.gives(MOST + " 1000000001 #16", "999999999.0");
    }

    /** The same of products: (10^9 - 1) (10^9 + 1) is 10^18 - 1. */
    private static void sizesOfProducts() {
        Due.gives("999999999 1000000001 #15", MOST);
        Due.gives("1000000000 1000000000 #15", "ERROR");
        Due.gives("-999999999 1000000001 #15", "-" + MOST);
        Due.gives("-1000000000 1000000000 #15", "ERROR");
        Due.gives("-999999999 -1000000001 #15", MOST);
        Due.gives("-1000000000 -1000000000 #15", "ERROR");
        Due.gives(MOST + " 1 #15", MOST);
        Due.gives(MOST + " -1 #15", "-" + MOST);
        Due.gives(MOST + " 0 #15", "0");
        Due.gives(MOST + " 2 #15", "ERROR");
        Due.gives("500000000000000000 2 #15", "ERROR");
        Due.gives("499999999999999999 2 #15", "999999999999999998");
        Due.gives(MOST + " " + MOST + " #15", "ERROR");
        Due.gives("4294967296 4294967296 #15", "ERROR");
        Due.gives("1500000000 1500000000 #15", "ERROR");
        Due.gives("1500000000.5 1500000000.5 #15", "ERROR");
        Due.gives("1500000000 666666666 #15", "999999999000000000");
        Due.gives("1500000000 666666667 #15", "ERROR");
        Due.gives("999999999.0 1000000001 #15", MOST + ".0");
        Due.gives("1000000000.0 1000000000 #15", "ERROR");
        Due.gives("0.999999999 1000000001 #15", "999999999.999999999");
        Due.gives("-0.999999999 1000000001 #15", "-999999999.999999999");
        Due.gives("0.999999999 1000000002 #15", "ERROR");
        Due.gives("-0.999999999 1000000002 #15", "ERROR");
        Due.gives("333333333333333333 0.3 #15", "99999999999999999.9");
        Due.gives("333333333333333337 0.3 #15", "ERROR");
        Due.gives(MOST + " 0.1 #15", "99999999999999999.9");
        Due.gives(MOST + " 0.9 #15", "ERROR");
        Due.gives(MOST + " 0.000000001 #15", "999999999.999999999");
        Due.gives(MOST + " 0.0 #15", "0.0");
        Due.gives(MOST + ".0 " + MOST + ".0 #15", "ERROR");
        Due.gives("999999999.999999999 " + MOST + " #15", "ERROR");
    }

    /** The same of quotients; "ERROR by 0". */
    private static void sizesOfQuotients() {
        Due.gives(MOST + " 1 #16", MOST + ".0");
        Due.gives("-" + MOST + " 1 #16", "-" + MOST + ".0");
        Due.gives(MOST + " -" + MOST + " #16", "-1.0");
        Due.gives("99999999999999999.9 0.1 #16", MOST + ".0");
        Due.gives("100000000000000000 0.1 #16", "ERROR");
        Due.gives("-99999999999999999.9 0.1 #16", "-" + MOST + ".0");
        Due.gives("-100000000000000000 0.1 #16", "ERROR");
        Due.gives("999999999.999999999 0.000000001 #16", MOST + ".0");
        Due.gives("1000000000 0.000000001 #16", "ERROR");
        Due.gives(MOST + " 0.000000001 #16", "ERROR");
        Due.gives("199999999999999999 2 #16", "99999999999999999.5");
        Due.gives("200000000000000001 2 #16", "ERROR");
        Due.gives(MOST + " 2 #16", "ERROR");
        Due.gives(MOST + " 1000000000 #16", "999999999.999999999");
        Due.gives("2999999999 3 #16", "999999999.666666667");
        Due.gives("3000000001 3 #16", "ERROR");
        Due.gives("-2999999999 3 #16", "-999999999.666666667");
        Due.gives("-3000000001 3 #16", "ERROR");
        Due.gives(MOST + " 3 #16", "333333333333333333.0");
        Due.gives("1 0.000000001 #16", "1000000000.0");
        Due.gives("1 -0.000000001 #16", "-1000000000.0");
        Due.each(new String[] {"1 0 #16", "1 0.0 #16", "1.0 0 #16", "-1.5 0.0 #16", "0 0 #16", "0.0 0.0 #16",
            MOST + " 0 #16"}, "ERROR");
        Due.gives("0 1 #16", "0.0");
        Due.gives("0 -0.000000001 #16", "0.0");
        Due.gives("0.0 " + MOST + " #16", "0.0");
    }

    /** "What has more than 9 digits behind the dot is rounded to 9, halves away from 0": products. */
    private static void roundedProducts() {
        Due.gives("0.000000001 1 #15", "0.000000001");
        Due.gives("0.00001 0.0001 #15", "0.000000001");
        Due.gives("0.00001 0.00004 #15", "0.0");
        Due.gives("0.00001 0.00005 #15", "0.000000001");
        Due.gives("0.000000001 0.499999999 #15", "0.0");
        Due.gives("0.000000001 0.5 #15", "0.000000001");
        Due.gives("0.000000001 0.500000001 #15", "0.000000001");
        Due.gives("-0.000000001 0.499999999 #15", "0.0");
        Due.gives("-0.000000001 0.5 #15", "-0.000000001");
        Due.gives("-0.000000001 -0.5 #15", "0.000000001");
        Due.gives("0.000000003 0.5 #15", "0.000000002");
        Due.gives("0.000000005 0.5 #15", "0.000000003");
        Due.gives("-0.000000003 0.5 #15", "-0.000000002");
        Due.gives("-0.000000005 0.5 #15", "-0.000000003");
        Due.gives("0.000000001 0.000000001 #15", "0.0");
        Due.gives("0.999999999 0.999999999 #15", "0.999999998");
        Due.gives("1.999999999 0.5 #15", "1.0");
        Due.gives("-1.999999999 0.5 #15", "-1.0");
        Due.gives("1.999999997 0.5 #15", "0.999999999");
        Due.gives("123456789.123456789 1.5 #15", "185185183.685185184");
        Due.gives("666666666.666666666 1.5 #15", "999999999.999999999");
        Due.gives("666666666.666666667 1.5 #15", "ERROR");
    }

    /** The same of quotients, where the digits need not end. */
    private static void roundedQuotients() {
        Due.gives("1 3 #16", "0.333333333");
        Due.gives("2 3 #16", "0.666666667");
        Due.gives("-1 3 #16", "-0.333333333");
        Due.gives("2 -3 #16", "-0.666666667");
        Due.gives("1 1000000000 #16", "0.000000001");
        Due.gives("1 1999999999 #16", "0.000000001");
        Due.gives("1 2000000000 #16", "0.000000001");
        Due.gives("1 2000000001 #16", "0.0");
        Due.gives("-1 1999999999 #16", "-0.000000001");
        Due.gives("-1 2000000000 #16", "-0.000000001");
        Due.gives("-1 2000000001 #16", "0.0");
        Due.gives("0.000000001 2 #16", "0.000000001");
        Due.gives("0.000000001 2.000000001 #16", "0.0");
        Due.gives("0.000000003 2 #16", "0.000000002");
        Due.gives("0.000000005 2 #16", "0.000000003");
        Due.gives("-0.000000005 2 #16", "-0.000000003");
        Due.gives("1 " + MOST + " #16", "0.0");
        Due.gives("500000000 999999999999999999 #16", "0.000000001");
        Due.gives("499999999 999999999999999999 #16", "0.0");
        Due.gives("1999999999 2000000000 #16", "1.0");
        Due.gives("1999999998 2000000000 #16", "0.999999999");
        Due.gives("-1999999999 2000000000 #16", "-1.0");
        Due.gives(MOST + " 1000000000000 #16", "1000000.0");
        Due.gives("0.999999999 999999999 #16", "0.000000001");
    }

    /** 13 .. 21: "ERROR for others than 3 and 4". */
    private static void othersAreNotReckoned() {
        for (String other : ONE_OF_EACH_OTHER) {
            for (int operation = 13; operation <= 16; operation++) {
                Due.gives(other + " 3 #" + operation, "ERROR");
                Due.gives("3 " + other + " #" + operation, "ERROR");
                Due.gives("3.5 " + other + " #" + operation, "ERROR");
                Due.gives(other + " " + other + " #" + operation, "ERROR");
            }
            for (int operation = 17; operation <= 21; operation++) {
                Due.gives(other + " #" + operation, "ERROR");
            }
        }
    }

    /** 17 and 18, "of the same kind". */
    private static void signs() {
        for (String size : new String[] {"1", MOST, "1.0", "0.000000001", "999999999.999999999", MOST + ".0"}) {
            Due.gives(size + " #17", "-" + size);
            Due.gives("-" + size + " #17", size);
            Due.gives(size + " #18", size);
            Due.gives("-" + size + " #18", size);
        }
        for (String zero : new String[] {"0", "0.0"}) {
            Due.gives(zero + " #17", zero);
            Due.gives(zero + " #18", zero);
        }
    }

    private static void dueRounded(String value, String up, String down, String near) {
        Due.gives(value + " #19", up);
        Due.gives(value + " #20", down);
        Due.gives(value + " #21", near);
    }

    /** 19 "the least whole number not below", 20 "the greatest not above", 21 "the nearest (of two the greater)". */
    private static void wholeNumbersNearby() {
        for (String same : new String[] {"0", "1", "-1", MOST, "-" + MOST, "0.0", "1.0", "-1.0", MOST + ".0",
            "-" + MOST + ".0"}) {
            dueRounded(same, same, same, same);
        }
        dueRounded("0.000000001", "1.0", "0.0", "0.0");
        dueRounded("0.499999999", "1.0", "0.0", "0.0");
        dueRounded("0.5", "1.0", "0.0", "1.0");
        dueRounded("0.999999999", "1.0", "0.0", "1.0");
        dueRounded("1.000000001", "2.0", "1.0", "1.0");
        dueRounded("1.5", "2.0", "1.0", "2.0");
        dueRounded("2.5", "3.0", "2.0", "3.0");
        dueRounded("2.4", "3.0", "2.0", "2.0");
        dueRounded("-0.000000001", "0.0", "-1.0", "0.0");
        dueRounded("-0.5", "0.0", "-1.0", "0.0");
        dueRounded("-0.500000001", "0.0", "-1.0", "-1.0");
        dueRounded("-0.999999999", "0.0", "-1.0", "-1.0");
        dueRounded("-1.000000001", "-1.0", "-2.0", "-1.0");
        dueRounded("-1.5", "-1.0", "-2.0", "-1.0");
        dueRounded("-1.500000001", "-1.0", "-2.0", "-2.0");
        dueRounded("-2.5", "-2.0", "-3.0", "-2.0");
        dueRounded("999999999.999999999", "1000000000.0", "999999999.0", "1000000000.0");
        dueRounded("-999999999.999999999", "-999999999.0", "-1000000000.0", "-1000000000.0");
        dueRounded("99999999999999999.9", "100000000000000000.0", "99999999999999999.0", "100000000000000000.0");
        dueRounded("99999999999999999.4", "100000000000000000.0", "99999999999999999.0", "99999999999999999.0");
        dueRounded("-99999999999999999.5", "-99999999999999999.0", "-100000000000000000.0", "-99999999999999999.0");
        dueRounded("-99999999999999999.6", "-99999999999999999.0", "-100000000000000000.0",
                "-100000000000000000.0");
    }

    public static void main(String[] args) {
        truthOfValues();
        numbersAreEqualByValue();
        othersAreEqualWhenTheSame();
        typedTextsAreEqualOrErrors();
        lessness();
        sameness();
        strings();
        kindsOfResults();
        sizesOfSums();
        sizesWithTheLeastScale();
        sizesOfProducts();
        sizesOfQuotients();
        roundedProducts();
        roundedQuotients();
        othersAreNotReckoned();
        signs();
        wholeNumbersNearby();
        Due.end("TermBoundaryTests");
    }
}
