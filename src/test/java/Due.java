/** What tests ask: each prints what is not as due, and the end of a test tells whether there was one. */
final class Due {
    private static int asked = 0;
    private static int wrong = 0;

    private Due() {
    }

    static void is(String what, long got, long want) {
        is(what, "" + got, "" + want);
    }

    static void is(String what, boolean got, boolean want) {
        is(what, "" + got, "" + want);
    }

    static void is(String what, String got, String want) {
        asked++;
        if (!got.equals(want)) {
            wrong++;
            System.out.println(what + ": answered " + got + ", due is " + want);
        }
    }

    /** An answer told as a value, and the very value that is made when it is asked for as it is written. */
    static void isValue(String what, Desk d, int answer, String want) {
        is(what, d.show(answer), want);
        if (answer > 0) {
            is(what + ", asked for as " + want, d.value(want), answer);
        }
    }

    /** What the written expression gives on a new object. */
    static void gives(String expression, String want) {
        Desk d = new Desk();
        d.express(expression);
        isValue(expression, d, d.run(), want);
    }

    static void each(String[] expressions, String want) {
        for (String expression : expressions) {
            gives(expression, want);
        }
    }

    /** What the written values are together on a new object. */
    static void together(int sort, boolean once, String written, String want) {
        Desk d = new Desk();
        d.gatherAll(sort, once, 0, written);
        isValue("sort " + sort + " of " + written + (once ? ", each once" : ""), d, d.together(), want);
    }

    static void joined(String between, boolean once, String written, String want) {
        Desk d = new Desk();
        d.gatherAll(6, once, d.value(between), written);
        isValue("JOINED by " + between + " of " + written + (once ? ", each once" : ""), d, d.together(), want);
    }

    static void end(String test) {
        System.out.println(test + ": " + asked + " answers asked, " + wrong + " not as due");
        if (asked == 0 || wrong != 0) {
            System.exit(1);
        }
    }
}
