/** The boundaries of AN EXPRESSION and its operations 0 to 24, and of the promises 13 to 17. */
public final class OperationBoundaryTests {
    private static final int BAD = -1;
    private static final int FULL = -3;
    private static final int ERROR = -4;
    private static final String MOST = "999999999999999999";
    private static final int LAST_OPERATION = 41;
    private static final int[] FAR = {Integer.MIN_VALUE, Integer.MAX_VALUE};

    /** Operands with which each operation gives a value. */
    private static String[] operandsOf(int operation) {
        if (operation <= 2) {
            return new String[0];
        }
        if (operation == 22) {
            return new String[] {"true", "1", "2"};
        }
        if (operation == 26) {
            return new String[] {"'ab'", "1", "2"};
        }
        if (operation >= 30 && operation <= 34) {
            return new String[] {"'ab'", "'b'"};
        }
        if (operation == 25 || operation == 27 || operation == 28) {
            return new String[] {"'ab'"};
        }
        if (operation == 3 || operation >= 17 && operation <= 21 || operation >= 35) {
            return new String[] {"1"};
        }
        return new String[] {"1", "2"};
    }

    private static boolean takesMany(int operation) {
        return operation == 23 || operation == 24 || operation == 29;
    }

    private static String joined(String[] parts, int from, int end, String last) {
        StringBuilder s = new StringBuilder();
        for (int i = from; i < end; i++) {
            s.append(parts[i]).append(' ');
        }
        return s.append(last).toString();
    }

    private static String times(String word, int count) {
        return (word + " ").repeat(count);
    }

    /** Promise 13: "BAD when operation is not 0 .. 41". */
    private static void thereAreOperations0To41() {
        Desk d = new Desk();
        for (int operation = 0; operation <= LAST_OPERATION; operation++) {
            Due.is("word " + operation, d.word(operation, 1), operation + 1);
        }
        int[] wrong = {-1, 42, 43, -41, Integer.MIN_VALUE, Integer.MAX_VALUE};
        for (int operation : wrong) {
            Due.is("word " + operation, d.word(operation, 1), BAD);
        }
        Due.is("none of them came", d.begin(), 42);
    }

    /** Promise 13: "or a is not as told for 23, 24, 29"; for others it is not looked at. */
    private static void numbersOfWords() {
        Desk d = new Desk();
        int words = 0;
        for (int operation : new int[] {23, 24, 29}) {
            int fewest = operation == 23 ? 1 : 0;
            for (int a : new int[] {fewest - 1, -2, 21, Integer.MIN_VALUE, Integer.MAX_VALUE}) {
                Due.is("word " + operation + " of " + a, d.word(operation, a), BAD);
            }
            for (int a : new int[] {fewest, fewest + 1, 19, 20}) {
                words++;
                Due.is("word " + operation + " of " + a, d.word(operation, a), words);
            }
        }
        Due.is("none of the others came", d.begin(), words);
        d = new Desk();
        words = 0;
        for (int operation = 0; operation <= LAST_OPERATION; operation++) {
            for (int far : FAR) {
                boolean comes = !takesMany(operation);
                words += comes ? 1 : 0;
                Due.is("word " + operation + " of " + far, d.word(operation, far), comes ? words : BAD);
            }
        }
    }

    /** "At most 100 words": "then FULL when there are 100". */
    private static void thereAreAtMost100Words() {
        Desk d = new Desk();
        d.express("1");
        for (int i = 2; i <= 99; i++) {
            Due.is("a word more", d.word(17, 0), i);
        }
        Due.is("run of 99 words", d.show(d.run()), "1");
        Due.is("the 100th word", d.word(17, 0), 100);
        Due.is("the 101st word", d.word(17, 0), FULL);
        Due.is("the 101st word, a value", d.word(0, 1), FULL);
        Due.is("BAD comes first, operation -1", d.word(-1, 0), BAD);
        Due.is("BAD comes first, operation 42", d.word(42, 0), BAD);
        Due.is("BAD comes first, 23 of 0", d.word(23, 0), BAD);
        Due.is("BAD comes first, 24 of -1", d.word(24, -1), BAD);
        Due.is("BAD comes first, 29 of 21", d.word(29, 21), BAD);
        Due.is("run of 100 words", d.show(d.run()), "-1");
        Due.is("begin of 100 words", d.begin(), 100);
        Due.is("begin of none", d.begin(), 0);
        Due.is("run of none", d.run(), BAD);
        Due.is("there is room again", d.word(0, 1), 1);
        Due.is("begin of one", d.begin(), 1);
    }

    /** As deep a stack as 100 words can need, and 100 values of which 99 are left too many. */
    private static void deepStacks() {
        Desk d = new Desk();
        int last = d.whole(7);
        d.begin();
        for (int i = 1; i < 95; i++) {
            d.word(0, 0);
        }
        d.word(0, last);
        for (int i = 1; i <= 4; i++) {
            d.word(23, 20);
        }
        Due.is("a word too few", d.run(), BAD);
        Due.is("the 100th word", d.word(23, 19), 100);
        Due.is("95 deep", d.run(), last);
        d.begin();
        for (int i = 1; i <= 100; i++) {
            d.word(0, last);
        }
        Due.is("100 are left", d.run(), BAD);
    }

    /** RIGHT: "when nothing ever lacks, and one is left", for each operation. */
    private static void expressionsAreRight() {
        Due.gives("", "BAD");
        Due.gives("1", "1");
        Due.gives("1 2", "BAD");
        Due.gives("ERROR", "ERROR");
        Due.gives("ERROR ERROR", "BAD");
        for (int operation = 3; operation <= LAST_OPERATION; operation++) {
            if (takesMany(operation)) {
                continue;
            }
            String[] operands = operandsOf(operation);
            String word = "#" + operation;
            Due.gives(joined(operands, 1, operands.length, word), "BAD");
            Due.gives("5 " + joined(operands, 0, operands.length, word), "BAD");
            Due.gives(word + " " + joined(operands, 0, operands.length - 1, "5"), "BAD");
            Desk d = new Desk();
            d.express(joined(operands, 0, operands.length, word));
            Due.is(word + " of enough is a value", d.run() > 0, true);
        }
    }

    /** The same for those that take a of them, or one and a. */
    private static void enoughFor23And24And29() {
        for (int a : new int[] {1, 2, 19, 20}) {
            Due.gives(times("7", a) + "#23/" + a, "7");
            Due.gives(times("7", a - 1) + "#23/" + a, "BAD");
            Due.gives(times("7", a + 1) + "#23/" + a, "BAD");
        }
        for (int a : new int[] {0, 1, 19, 20}) {
            Due.gives(times("7", a + 1) + "#24/" + a, a == 0 ? "false" : "true");
            Due.gives(times("7", a) + "#24/" + a, "BAD");
            Due.gives(times("7", a + 2) + "#24/" + a, "BAD");
        }
        for (int a : new int[] {0, 1, 19, 20}) {
            Due.gives(times("'x'", a) + "#29/" + a, "'" + "x".repeat(a) + "'");
            Due.gives(times("'x'", a + 1) + "#29/" + a, "BAD");
            if (a > 0) {
                Due.gives(times("'x'", a - 1) + "#29/" + a, "BAD");
            }
        }
        Due.gives("#23/1", "BAD");
        Due.gives("#24/0", "BAD");
    }

    /** "Where one that is taken is ERROR, so is the result, if nothing else is said". */
    private static void errorsGoOn() {
        for (int operation = 3; operation <= LAST_OPERATION; operation++) {
            boolean saysElse = operation == 4 || operation == 5 || operation >= 22 && operation <= 24;
            String[] operands = operandsOf(operation);
            String word = operation == 29 ? "#29/2" : "#" + operation;
            for (int i = 0; i < operands.length && !saysElse; i++) {
                String[] spoiled = operation == 29 ? new String[] {"'a'", "'b'"} : operands.clone();
                spoiled[i] = "ERROR";
                Due.gives(joined(spoiled, 0, spoiled.length, word), "ERROR");
            }
        }
    }

    /** 0: "value a (ERROR when there is none)". */
    private static void valuesOfWords() {
        Desk d = new Desk();
        d.allValues("70 71 72");
        int[] asked = {Integer.MIN_VALUE, -1, 0, 1, 3, 4, Integer.MAX_VALUE};
        int[] want = {ERROR, ERROR, ERROR, 1, 3, ERROR, ERROR};
        for (int i = 0; i < asked.length; i++) {
            d.begin();
            d.word(0, asked[i]);
            Due.is("value " + asked[i], d.run(), want[i]);
        }
        d.begin();
        d.word(0, 4);
        Due.is("value 4 before it is made", d.run(), ERROR);
        d.whole(73);
        Due.is("value 4 when it is made", d.run(), 4);
    }

    /** 1: "variable a (0 .. 9; ERROR when it is not bound, or there is none such)", and 2 "whether it is bound". */
    private static void variables0To9() {
        for (int variable = 0; variable <= 9; variable++) {
            Desk d = new Desk();
            int value = d.value("'v'");
            Due.is("bind " + variable, d.bind(variable, value), true);
            for (int other = -1; other <= 10; other++) {
                d.express("#1/" + other);
                Due.is("variable " + other + " of " + variable, d.run(), other == variable ? value : ERROR);
                d.express("#2/" + other);
                Due.is("bound " + other + " of " + variable, d.show(d.run()), "" + (other == variable));
            }
            for (int far : FAR) {
                d.express("#1/" + far);
                Due.is("variable " + far, d.run(), ERROR);
                d.express("#2/" + far);
                Due.is("bound " + far, d.show(d.run()), "false");
            }
        }
    }

    /** Promise 15: "false when there is no such variable (0 .. 9) or value"; a refused call binds nothing. */
    private static void binding() {
        Desk d = new Desk();
        d.allValues("70 71");
        int[] wrongVariables = {-1, 10, Integer.MIN_VALUE, Integer.MAX_VALUE};
        for (int variable : wrongVariables) {
            Due.is("bind " + variable, d.bind(variable, 1), false);
            Due.is("bind " + variable + " no more", d.bind(variable, 0), false);
        }
        for (int variable = 0; variable <= 9; variable += 9) {
            Due.is("bind to the first", d.bind(variable, 1), true);
            d.express("#1/" + variable);
            Due.is("the first", d.run(), 1);
            Due.is("bind to the last", d.bind(variable, 2), true);
            Due.is("the last", d.run(), 2);
            int[] wrongValues = {-1, 3, Integer.MIN_VALUE, Integer.MAX_VALUE};
            for (int value : wrongValues) {
                Due.is("bind to " + value, d.bind(variable, value), false);
                Due.is("the last stays", d.run(), 2);
            }
            Due.is("bind no more", d.bind(variable, 0), true);
            Due.is("not bound", d.run(), ERROR);
            Due.is("bind no more again", d.bind(variable, 0), true);
        }
        Desk none = new Desk();
        Due.is("bind to 1 when there is none", none.bind(0, 1), false);
        Due.is("bind to 0 when there is none", none.bind(0, 0), true);
        Desk full = Desk.withRoom(0);
        Due.is("bind to 2000", full.bind(9, 2000), true);
        Due.is("bind to 2001", full.bind(9, 2001), false);
        full.express("#1/9");
        Due.is("value 2000", full.run(), 2000);
    }

    /** 4 AND, 5 OR "of two truths, by three: false and ERROR are false, true or ERROR is true; else ERROR where one is". */
    private static void truthsByThree() {
        String[] three = {"false", "true", "ERROR"};
        String[] and = {"false", "false", "false", "false", "true", "ERROR", "false", "ERROR", "ERROR"};
        String[] or = {"false", "true", "ERROR", "true", "true", "true", "ERROR", "true", "ERROR"};
        for (int i = 0; i < 9; i++) {
            Due.gives(three[i / 3] + " " + three[i % 3] + " #4", and[i]);
            Due.gives(three[i / 3] + " " + three[i % 3] + " #5", or[i]);
        }
        for (String without : new String[] {"?1", ":1", "'a'@1", "'a'^1"}) {
            Due.gives(without + " false #4", "false");
            Due.gives("false " + without + " #4", "false");
            Due.gives(without + " true #4", "ERROR");
            Due.gives("true " + without + " #4", "ERROR");
            Due.gives(without + " true #5", "true");
            Due.gives("true " + without + " #5", "true");
            Due.gives(without + " false #5", "ERROR");
            Due.gives("false " + without + " #5", "ERROR");
            Due.gives(without + " " + without + " #4", "ERROR");
            Due.gives(without + " ERROR #5", "ERROR");
        }
        Due.gives("0 ERROR #4", "false");
        Due.gives("0.000000001 ERROR #5", "true");
        Due.gives("ERROR '' #4", "false");
        Due.gives("ERROR 'a' #5", "true");
    }

    /** 22 IF: "ERROR when that is (others may be)". */
    private static void choices() {
        Due.gives("true ?1 ?2 #22", "?1");
        Due.gives("false ?1 ?2 #22", "?2");
        Due.gives("true ?1 ERROR #22", "?1");
        Due.gives("false ERROR ?2 #22", "?2");
        Due.gives("true ERROR ?2 #22", "ERROR");
        Due.gives("false ?1 ERROR #22", "ERROR");
        Due.gives("ERROR ?1 ?2 #22", "ERROR");
        Due.gives("ERROR ?1 ?1 #22", "ERROR");
        Due.gives("ERROR ERROR ERROR #22", "ERROR");
        Due.gives(":1 ?1 ?2 #22", "ERROR");
        Due.gives("0 ?1 ?2 #22", "?2");
        Due.gives("0.000000001 ?1 ?2 #22", "?1");
        Due.gives("'' ?1 ?2 #22", "?2");
        Due.gives("''@0 ?1 ?2 #22", "ERROR");
    }

    /** 23: "the first of a (1 .. 20) that is no ERROR; else ERROR". */
    private static void theFirstThatIsNoError() {
        Due.gives("?1 #23/1", "?1");
        Due.gives("ERROR #23/1", "ERROR");
        Due.gives("?1 ?2 #23/2", "?1");
        Due.gives("ERROR ?2 #23/2", "?2");
        Due.gives("?1 ERROR #23/2", "?1");
        Due.gives("ERROR ERROR #23/2", "ERROR");
        for (int good = 0; good < 20; good++) {
            Due.gives(times("ERROR", good) + "?1 " + times("?2", 19 - good) + "#23/20", "?1");
        }
        Due.gives(times("ERROR", 20) + "#23/20", "ERROR");
    }

    /** 24 IN: "of one and then a (0 .. 20): true .., else ERROR if one was, else false (ERROR if the first one is)". */
    private static void within() {
        Due.gives("1 #24/0", "false");
        Due.gives("?1 #24/0", "false");
        Due.gives("ERROR #24/0", "ERROR");
        Due.gives("ERROR ERROR #24/1", "ERROR");
        Due.gives("ERROR 1 #24/1", "ERROR");
        Due.gives("1 ERROR #24/1", "ERROR");
        Due.gives("1 ERROR 1 #24/2", "true");
        Due.gives("1 1 ERROR #24/2", "true");
        Due.gives("1 2 ERROR #24/2", "ERROR");
        Due.gives("1 ERROR 2 #24/2", "ERROR");
        Due.gives("1 '1'^1 2 #24/2", "ERROR");
        Due.gives("1 '1'^1 1.0 #24/2", "true");
        Due.gives("?1 '1'^1 2 #24/2", "false");
        Due.gives("'1'^1 '1'^2 '1'^1 #24/2", "true");
        for (int place = 0; place < 20; place++) {
            String before = "1 " + times("2", place);
            String behind = times("2", 19 - place) + "#24/20";
            Due.gives(before + "1 " + behind, "true");
            Due.gives(before + "ERROR " + behind, "ERROR");
            Due.gives(before + "3 " + behind, "false");
        }
    }

    /** Promise 16: "made if it is not there"; what is not RIGHT makes nothing. */
    private static void whatRunsMake() {
        Desk d = new Desk();
        d.express("2 3 #13");
        Due.is("two values", d.values(), 2);
        Due.is("a value is made", d.run(), 3);
        Due.is("the value is there", d.run(), 3);
        Due.is("three values", d.values(), 3);
        d.express("2 3 #15 2 #13");
        Due.is("made by a value that only lay on the stack", d.show(d.run()), "8");
        Due.is("the value on the stack is made, too", d.show(4), "6");
        Due.is("both of them", d.values(), 5);
        d.express("2 3 #14 ERROR #13");
        Due.is("an ERROR", d.run(), ERROR);
        Due.is("what lay on the stack before it", d.show(6), "-1");
        d.express("7 7 #13 7");
        Due.is("BAD", d.run(), BAD);
        Due.is("test BAD", d.test(), BAD);
        Due.is("7 alone was made", d.values(), 7);
        d.express("7 7 #13 #13");
        Due.is("BAD where one lacks", d.run(), BAD);
        Due.is("nothing was made", d.values(), 7);
        d.express("7 7 #13 #3");
        Due.is("test of not 14", d.test(), 0);
        Due.is("test makes values, too", d.values(), 9);
    }

    /** Promise 14: "no words again": nothing of a longer expression stays for a shorter one. */
    private static void shorterExpressions() {
        Desk d = new Desk();
        String[] written = {times("7", 21) + "#24/20", "1 2 #13", "ERROR #23/1", "1", "ERROR ERROR #23/2", "#29/0",
            "2 #24/0", "2"};
        String[] want = {"true", "3", "ERROR", "1", "ERROR", "''", "false", "2"};
        for (int i = 0; i < written.length; i++) {
            d.express(written[i]);
            Due.isValue(written[i] + " behind longer ones", d, d.run(), want[i]);
        }
    }

    private static void dueRoom(String expression, int needed, String want) {
        Desk d = Desk.withRoom(needed);
        d.express(expression);
        int before = d.values();
        Due.is(expression + " with room", d.show(d.run()), want);
        Due.is(expression + " made so many", d.values(), before + needed);
        Due.is(expression + " again, when full", d.show(d.run()), want);
        d = Desk.withRoom(needed);
        d.express(expression);
        Due.is(expression + " tested with room", d.test() != FULL, true);
        if (needed > 0) {
            d = Desk.withRoom(needed - 1);
            d.express(expression);
            Due.is(expression + " without room", d.run(), FULL);
            Due.is(expression + " without room again", d.run(), FULL);
            Due.is(expression + " tested without room", d.test(), FULL);
            Due.is(expression + " fills it", d.values(), 2000);
        }
    }

    /** Promise 16: "FULL when there is no room for a value, also on the way"; promise 17: "FULL". */
    private static void roomForRuns() {
        dueRoom("1", 0, "1");
        dueRoom("1 1 #15", 0, "1");
        dueRoom("1 1000 #13", 0, "1001");
        dueRoom("ERROR 1 #13", 0, "ERROR");
        dueRoom("1 ',' #13", 0, "ERROR");
        dueRoom("1 #17", 1, "-1");
        dueRoom("1 1 #6", 1, "true");
        dueRoom("1 #3", 1, "false");
        dueRoom("#2/0", 1, "false");
        dueRoom("1 1 #16", 1, "1.0");
        dueRoom("',' #25 1 #15", 0, "1");
        dueRoom("',' ',' #29/2", 1, "',,'");
        dueRoom("1 #35", 1, "'1'");
        dueRoom("',' #36", 1, "''");
        dueRoom("',' #37", 1, ":1000");
        dueRoom("1 1 #13 1 #13", 2, "3");
        dueRoom("1 1 #13 1 #14", 1, "1");
        dueRoom("1 1 1 #13 #23/2", 1, "1");
        dueRoom("1 1 1 1 #13 #22", 1, "1");
        dueRoom("1 1 #13 ERROR #13", 1, "ERROR");
        dueRoom("1 1 #13 1 1 #6 #24/1", 3, "false");
    }

    /** BAD comes before any value is made, so also before FULL. */
    private static void badBeforeFull() {
        Desk d = Desk.withRoom(0);
        d.express("1 1 #6 1");
        Due.is("run, BAD before FULL", d.run(), BAD);
        Due.is("test, BAD before FULL", d.test(), BAD);
        d.express("1 1 #6 #6");
        Due.is("run, BAD before FULL where one lacks", d.run(), BAD);
        d.express("1 1 #6");
        Due.is("run, FULL", d.run(), FULL);
    }

    /** Promise 17: "The truth of that: 1 or 0, ERROR; BAD, FULL". */
    private static void tests() {
        String[] asked = {"1", "0", "0.000000001", "0.0", "'a'", "''", "true", "false", "?1", ":1", "'a'@1", "''^1",
            "ERROR", "1 0 #16", "1 1 #6", "1 2 #6", "1 2", "", "#6", "1 1 #14"};
        int[] want = {1, 0, 1, 0, 1, 0, 1, 0, ERROR, ERROR, ERROR, ERROR, ERROR, ERROR, 1, 0, BAD, BAD, BAD, 0};
        for (int i = 0; i < asked.length; i++) {
            Desk d = new Desk();
            d.express(asked[i]);
            Due.is("test of " + asked[i], d.test(), want[i]);
        }
    }

    public static void main(String[] args) {
        thereAreOperations0To41();
        numbersOfWords();
        thereAreAtMost100Words();
        deepStacks();
        expressionsAreRight();
        enoughFor23And24And29();
        errorsGoOn();
        valuesOfWords();
        variables0To9();
        binding();
        truthsByThree();
        choices();
        theFirstThatIsNoError();
        within();
        whatRunsMake();
        shorterExpressions();
        roomForRuns();
        badBeforeFull();
        tests();
        Due.end("OperationBoundaryTests");
    }
}
