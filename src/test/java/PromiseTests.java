/** Each promise of the document by hand: ordinary inputs, the edges that it names, and wrong inputs. */
public final class PromiseTests {
    private static final int BAD = -1;
    private static final int FULL = -3;
    private static final int ERROR = -4;
    private static final long MOST = 999999999999999999L;

    private static int wrong = 0;

    private static void due(String what, long got, long want) {
        if (got != want) {
            wrong++;
            System.out.println(what + ": answered " + got + ", due is " + want);
        }
    }

    /** The text typed byte by byte, so that any length goes. */
    private static int text(ExpressionDesk x, String s, int kind, int extra) {
        for (int i = 0; i < s.length(); i++) {
            x.type(s.charAt(i), 1);
        }
        return x.text(kind, extra);
    }

    private static int plain(ExpressionDesk x, String s) {
        return text(x, s, 5, 0);
    }

    /** Runs the expression of these words: an operation and a number in turn. */
    private static int run(ExpressionDesk x, int... words) {
        x.begin();
        for (int i = 0; i + 1 < words.length; i += 2) {
            x.word(words[i], words[i + 1]);
        }
        return x.run();
    }

    /** One operation on values; 0 stands for an ERROR. */
    private static int on(ExpressionDesk x, int operation, int... values) {
        x.begin();
        for (int value : values) {
            x.word(0, value);
        }
        boolean takesMany = operation == 23 || operation == 24 || operation == 29;
        x.word(operation, takesMany ? operation == 24 ? values.length - 1 : values.length : 0);
        return x.run();
    }

    private static String repeated(String s, int times) {
        return s.repeat(times);
    }

    private static void newObject() {
        ExpressionDesk x = new ExpressionDesk();
        due("1: values of a new object", x.values(), 0);
        due("1: run without words", x.run(), BAD);
        due("1: test without words", x.test(), BAD);
        due("1: begin of a new object", x.begin(), 0);
        due("1: tape is empty", x.type('a', 1), 1);
        x = new ExpressionDesk();
        int zero = x.together();
        due("1: COUNT of none is a whole", x.told(zero, 0), 3);
        due("1: COUNT of none", x.amount(zero), 0);
        due("1: not each only once", x.add(zero), 1);
        due("1: not each only once, again", x.add(zero), 2);
        int bound = run(x, 2, 0);
        due("1: nothing is bound", x.told(bound, 1), 0);
        x = new ExpressionDesk();
        due("1: the empty tape as a text", x.told(x.text(5, 0), 3), 0);
    }

    private static void type() {
        ExpressionDesk x = new ExpressionDesk();
        due("2: three bytes", x.type(0x7f616263L, 3), 3);
        due("2: n 0", x.type(1, 0), BAD);
        due("2: n 9", x.type(1, 9), BAD);
        due("2: n -1", x.type(1, -1), BAD);
        due("2: eight more", x.type(0x4142434445464748L, 8), 11);
        int t = x.text(5, 0);
        due("2: length", x.told(t, 3), 11);
        due("2: highest first", x.byteOf(t, 0), 'a');
        due("2: lowest last", x.byteOf(t, 2), 'c');
        due("2: behind it", x.byteOf(t, 3), 'A');
        due("2: the very last", x.byteOf(t, 10), 'H');
        for (int i = 1; i <= 7; i++) {
            due("2: filling", x.type(0x6161616161616161L, 8), 8 * i);
        }
        due("2: 63", x.type(0x61616161616161L, 7), 63);
        due("2: too much", x.type(0x6162, 2), FULL);
        due("2: BAD before FULL", x.type(0x6162, 9), BAD);
        due("2: none came", x.type(0x62, 1), 64);
        due("2: full", x.type(0x62, 1), FULL);
        int all = x.text(5, 0);
        due("2: 64 bytes", x.told(all, 3), 64);
        due("2: the 64th", x.byteOf(all, 63), 'b');
    }

    private static void numbers() {
        ExpressionDesk x = new ExpressionDesk();
        due("3: a whole", x.whole(7), 1);
        due("3: again", x.whole(7), 1);
        due("3: another", x.whole(-7), 2);
        due("3: the greatest", x.whole(MOST), 3);
        due("3: the least", x.whole(-MOST), 4);
        due("3: too great", x.whole(MOST + 1), BAD);
        due("3: too low", x.whole(-MOST - 1), BAD);
        due("3: far too great", x.whole(Long.MAX_VALUE), BAD);
        due("3: far too low", x.whole(Long.MIN_VALUE), BAD);
        due("4: a decimal is not a whole", x.decimal(7, 0), 5);
        due("4: with its least scale", x.decimal(70, 1), 5);
        due("4: once more", x.decimal(7000000000L, 9), 5);
        due("4: 0.7", x.decimal(7, 1), 6);
        due("4: 0", x.decimal(0, 9), 7);
        due("4: 0 again", x.decimal(0, 0), 7);
        due("4: scale 10", x.decimal(1, 10), BAD);
        due("4: scale -1", x.decimal(1, -1), BAD);
        due("4: unscaled too great", x.decimal(MOST + 1, 9), BAD);
        due("4: unscaled too low", x.decimal(Long.MIN_VALUE, 0), BAD);
        int d = x.decimal(-1230, 4);
        due("4: unscaled", x.amount(d), -123);
        due("4: scale", x.told(d, 2), 3);
    }

    private static void truthsAndNames() {
        ExpressionDesk x = new ExpressionDesk();
        due("5: true", x.truth(true), 1);
        due("5: false", x.truth(false), 2);
        due("5: true again", x.truth(true), 1);
        due("5: false again", x.truth(false), 2);
        due("6: a blank", x.named(1, 0), 3);
        due("6: a name", x.named(2, 0), 4);
        due("6: the highest", x.named(2, 9999), 5);
        due("6: a blank again", x.named(1, 0), 3);
        due("6: too high", x.named(2, 10000), BAD);
        due("6: below 0", x.named(1, -1), BAD);
        due("6: kind 0", x.named(0, 1), BAD);
        due("6: kind 3", x.named(3, 1), BAD);
    }

    private static void texts() {
        ExpressionDesk x = new ExpressionDesk();
        due("7: a text", plain(x, "ab"), 1);
        due("7: again", plain(x, "ab"), 1);
        due("7: tagged", text(x, "ab", 6, 0), 2);
        due("7: tagged otherwise", text(x, "ab", 6, 99), 3);
        due("7: typed", text(x, "ab", 7, 0), 4);
        due("7: typed otherwise", text(x, "ab", 7, 99), 5);
        due("7: kind 5 with extra", text(x, "ab", 5, 1), BAD);
        due("7: the tape is empty after BAD", x.told(x.text(5, 0), 3), 0);
        due("7: tag 100", text(x, "ab", 6, 100), BAD);
        due("7: tag -1", text(x, "ab", 6, -1), BAD);
        due("7: type 100", text(x, "ab", 7, 100), BAD);
        due("7: kind 4", text(x, "ab", 4, 0), BAD);
        due("7: kind 8", text(x, "ab", 8, 0), BAD);
        x.type(0x610062, 3);
        due("7: byte 0", x.text(5, 0), BAD);
        x.type(0x80, 1);
        due("7: byte 128", x.text(6, 1), BAD);
        x.type(0xff, 1);
        due("7: byte 255", x.text(7, 1), BAD);
        x.type(0x7f01, 2);
        int t = x.text(5, 0);
        due("7: bytes 127", x.byteOf(t, 0), 127);
        due("7: byte 1", x.byteOf(t, 1), 1);
    }

    private static void telling() {
        ExpressionDesk x = new ExpressionDesk();
        int[] made = {x.named(1, 12), x.named(2, 34), x.whole(56), x.decimal(-789, 2), plain(x, "abc"),
            text(x, "de", 6, 7), text(x, "f", 7, 8), x.truth(true), x.truth(false)};
        int[][] want = {{1, 12, 0, 0}, {2, 34, 0, 0}, {3, 0, 0, 0}, {4, 0, 2, 0}, {5, 0, 0, 3},
            {6, 7, 0, 2}, {7, 8, 0, 1}, {8, 1, 0, 0}, {8, 0, 0, 0}};
        long[] amounts = {0, 0, 56, -789, 0, 0, 0, 0, 0};
        for (int i = 0; i < made.length; i++) {
            for (int what = 0; what < 4; what++) {
                due("8: told(" + made[i] + ", " + what + ")", x.told(made[i], what), want[i][what]);
            }
            due("8: what 4", x.told(made[i], 4), BAD);
            due("8: what -1", x.told(made[i], -1), BAD);
            due("9: amount(" + made[i] + ")", x.amount(made[i]), amounts[i]);
        }
        int[] none = {0, -1, 10, Integer.MAX_VALUE, Integer.MIN_VALUE};
        for (int value : none) {
            due("8: told of none", x.told(value, 0), BAD);
            due("9: amount of none", x.amount(value), 0);
            due("10: byte of none", x.byteOf(value, 0), BAD);
        }
        due("10: the first", x.byteOf(5, 0), 'a');
        due("10: the last", x.byteOf(5, 2), 'c');
        due("10: beyond", x.byteOf(5, 3), BAD);
        due("10: before", x.byteOf(5, -1), BAD);
        due("10: of a tagged one", x.byteOf(6, 1), 'e');
        due("10: of a typed one", x.byteOf(7, 0), 'f');
        due("10: of a whole", x.byteOf(3, 0), BAD);
        due("11: values", x.values(), 9);
        x.whole(56);
        due("11: kept once", x.values(), 9);
        x.whole(57);
        due("11: one more", x.values(), 10);
    }

    private static int[] risingValues(ExpressionDesk x) {
        return new int[] {x.named(1, 3), x.named(1, 20), x.named(2, 1), x.named(2, 9999), x.whole(-MOST),
            x.decimal(-MOST, 0), x.decimal(-15, 1), x.whole(-1), x.decimal(-1, 0), x.decimal(-1, 9), x.whole(0),
            x.decimal(0, 0), x.decimal(1, 9), x.decimal(3, 2), x.decimal(29, 2), x.decimal(3, 1), x.whole(3),
            x.decimal(3, 0), x.decimal(MOST, 9), x.whole(1000000000), x.decimal(1000000000, 0),
            x.decimal(MOST, 1), x.whole(MOST), x.decimal(MOST, 0), plain(x, ""), plain(x, "a"), plain(x, "aa"),
            plain(x, "ab"), plain(x, "b"), plain(x, "\u007f"), text(x, "", 6, 5), text(x, "a", 6, 0),
            text(x, "a", 6, 9), text(x, "a", 6, 10), text(x, "ab", 6, 0), text(x, "", 7, 9), text(x, "a", 7, 0),
            text(x, "a", 7, 1), x.truth(false), x.truth(true)};
    }

    private static void order() {
        for (int i = 0; i < 40; i++) {
            ExpressionDesk x = new ExpressionDesk();
            int[] rising = risingValues(x);
            for (int j = 0; j < rising.length; j++) {
                due("12: order of " + i + ", " + j, x.order(rising[i], rising[j]), Integer.compare(i, j));
            }
            due("12: none first", x.order(0, i), 2);
            due("12: none second", x.order(i, rising.length + 1), 2);
            due("12: none at all", x.order(-1, Integer.MAX_VALUE), 2);
        }
    }

    private static void words() {
        ExpressionDesk x = new ExpressionDesk();
        due("13: operation -1", x.word(-1, 0), BAD);
        due("13: operation 42", x.word(42, 0), BAD);
        due("13: 23 of 0", x.word(23, 0), BAD);
        due("13: 23 of 21", x.word(23, 21), BAD);
        due("13: 24 of -1", x.word(24, -1), BAD);
        due("13: 24 of 21", x.word(24, 21), BAD);
        due("13: 29 of -1", x.word(29, -1), BAD);
        due("13: 29 of 21", x.word(29, 21), BAD);
        due("13: 23 of 1", x.word(23, 1), 1);
        due("13: 23 of 20", x.word(23, 20), 2);
        due("13: 24 of 0", x.word(24, 0), 3);
        due("13: 24 of 20", x.word(24, 20), 4);
        due("13: 29 of 0", x.word(29, 0), 5);
        due("13: 29 of 20", x.word(29, 20), 6);
        due("13: no value is looked at", x.word(0, -5), 7);
        due("13: no variable is looked at", x.word(1, 77), 8);
        due("14: begin", x.begin(), 8);
        due("14: begin again", x.begin(), 0);
        for (int i = 0; i < 100; i++) {
            due("13: a word more", x.word(i % 42, 1), i + 1);
        }
        due("13: the 101st", x.word(0, 1), FULL);
        due("13: BAD before FULL", x.word(42, 1), BAD);
        due("13: BAD before FULL for 23", x.word(23, 0), BAD);
        due("14: begin of 100", x.begin(), 100);
        due("13: room again", x.word(0, 1), 1);
    }

    private static void binding() {
        ExpressionDesk x = new ExpressionDesk();
        int seven = x.whole(7);
        int yes = x.truth(true);
        int no = x.truth(false);
        due("15: bind", x.bind(0, seven) ? 1 : 0, 1);
        due("15: bind the last", x.bind(9, yes) ? 1 : 0, 1);
        due("15: variable 10", x.bind(10, seven) ? 1 : 0, 0);
        due("15: variable -1", x.bind(-1, seven) ? 1 : 0, 0);
        due("15: no such value", x.bind(0, 4) ? 1 : 0, 0);
        due("15: value -1", x.bind(0, -1) ? 1 : 0, 0);
        due("16: variable 0", run(x, 1, 0), seven);
        due("16: variable 9", run(x, 1, 9), yes);
        due("16: not bound", run(x, 1, 5), ERROR);
        due("16: no such variable", run(x, 1, 10), ERROR);
        due("16: no such variable below", run(x, 1, -1), ERROR);
        due("16: is bound", run(x, 2, 0), yes);
        due("16: is not bound", run(x, 2, 5), no);
        due("16: is none such", run(x, 2, 10), no);
        due("15: bind anew", x.bind(0, no) ? 1 : 0, 1);
        due("16: stands for another", run(x, 1, 0), no);
        due("15: not bound any more", x.bind(0, 0) ? 1 : 0, 1);
        due("16: not bound any more", run(x, 1, 0), ERROR);
        due("16: is not bound any more", run(x, 2, 0), no);
        due("15: binding stays over begin", run(x, 1, 9), yes);
    }

    private static void running() {
        ExpressionDesk x = new ExpressionDesk();
        int two = x.whole(2);
        due("16: a value", run(x, 0, two), two);
        due("16: run again", x.run(), two);
        due("16: no such value", run(x, 0, 2), ERROR);
        due("16: value 0", run(x, 0, 0), ERROR);
        due("16: two are left", run(x, 0, two, 0, two), BAD);
        due("16: one lacks", run(x, 0, two, 13, 0), BAD);
        due("16: lacks at first", run(x, 3, 0, 0, two), BAD);
        due("16: 24 lacks its first", run(x, 0, two, 24, 1), BAD);
        due("16: lacks though one is left", run(x, 13, 0, 0, two, 0, two), BAD);
        due("16: what is not RIGHT makes nothing", run(x, 0, two, 0, two, 13, 0, 0, two), BAD);
        due("16: nothing was made", x.values(), 1);
        int six = run(x, 0, two, 0, two, 13, 0, 0, two, 13, 0);
        due("16: 2 + 2 + 2", x.amount(six), 6);
        due("16: what lay on the stack is made, too", x.values(), 3);
        due("16: it came first", x.amount(2), 4);
        int chosen = run(x, 0, two, 0, two, 0, two, 15, 0, 0, two, 0, six, 15, 0, 22, 0);
        due("16: IF", x.amount(chosen), 4);
        due("16: also what was not chosen", x.amount(4), 12);
        due("17: true", x.test(), 1);
        run(x, 0, two, 0, two, 14, 0);
        due("17: false", x.test(), 0);
        run(x, 0, x.named(2, 3));
        due("17: ERROR", x.test(), ERROR);
        run(x, 0, 0);
        due("17: ERROR of an ERROR", x.test(), ERROR);
        run(x, 0, two, 0, two);
        due("17: BAD", x.test(), BAD);
    }

    private static void truthOfValues() {
        ExpressionDesk x = new ExpressionDesk();
        int[] values = {x.truth(true), x.truth(false), x.whole(5), x.whole(0), x.decimal(-1, 9), x.decimal(0, 0),
            plain(x, "0"), plain(x, ""), text(x, "a", 6, 1), text(x, "a", 7, 1), x.named(1, 1), x.named(2, 1), 0};
        int[] truths = {1, 0, 1, 0, 1, 0, 1, 0, ERROR, ERROR, ERROR, ERROR, ERROR};
        for (int i = 0; i < values.length; i++) {
            run(x, 0, values[i]);
            due("17: truth of value " + i, x.test(), truths[i]);
            due("16: NOT of value " + i, on(x, 3, values[i]), truths[i] == ERROR ? ERROR : truths[i] == 1 ? 2 : 1);
        }
        int[] three = {1, 2, 9};
        int[] and = {1, 2, ERROR, 2, 2, 2, ERROR, 2, ERROR};
        int[] or = {1, 1, 1, 1, 2, ERROR, 1, ERROR, ERROR};
        for (int i = 0; i < 9; i++) {
            due("16: AND " + i, on(x, 4, three[i / 3], three[i % 3]), and[i]);
            due("16: OR " + i, on(x, 5, three[i / 3], three[i % 3]), or[i]);
        }
        due("16: false AND an ERROR", on(x, 4, 2, 0), 2);
        due("16: an ERROR OR true", on(x, 5, 0, 1), 1);
        due("16: 5 AND text", on(x, 4, 3, 7), 1);
    }

    private static void comparing() {
        ExpressionDesk x = new ExpressionDesk();
        int yes = x.truth(true);
        int no = x.truth(false);
        int three = x.whole(3);
        int three0 = x.decimal(3, 0);
        int a = plain(x, "a");
        int b = plain(x, "b");
        int tagged = text(x, "a", 6, 1);
        int taggedB = text(x, "b", 6, 1);
        int typed = text(x, "a", 7, 1);
        int typedB = text(x, "a", 7, 2);
        int name = x.named(2, 3);
        int blank = x.named(1, 3);
        due("16: 3 = 3.0", on(x, 6, three, three0), yes);
        due("16: 3 not 3.0", on(x, 7, three, three0), no);
        due("16: 3 is not one and the same as 3.0", on(x, 12, three, three0), no);
        due("16: one and the same", on(x, 12, typed, typed), yes);
        due("16: one and the same, ERROR", on(x, 12, typed, 0), ERROR);
        due("16: typed = itself", on(x, 6, typed, typed), yes);
        due("16: typed = another typed", on(x, 6, typed, typedB), ERROR);
        due("16: typed not another typed", on(x, 7, typed, typedB), ERROR);
        for (int other : new int[] {yes, three, three0, a, tagged}) {
            due("16: typed = " + other, on(x, 6, typed, other), ERROR);
            due("16: " + other + " = typed", on(x, 6, other, typed), ERROR);
        }
        due("16: typed = name", on(x, 6, typed, name), no);
        due("16: blank = typed", on(x, 6, blank, typed), no);
        due("16: blank not name", on(x, 7, blank, name), yes);
        due("16: a = tagged", on(x, 6, a, tagged), no);
        due("16: 3 = a", on(x, 6, three, a), no);
        due("16: EQUAL with ERROR", on(x, 6, 0, 0), ERROR);
        int[] less = {yes, yes, no, no};
        int[] same = {no, yes, no, yes};
        int[] more = {no, no, yes, yes};
        for (int i = 0; i < 4; i++) {
            due("16: a, b by " + (8 + i), on(x, 8 + i, a, b), less[i]);
            due("16: b, a by " + (8 + i), on(x, 8 + i, b, a), more[i]);
            due("16: 3, 3.0 by " + (8 + i), on(x, 8 + i, three, three0), same[i]);
            due("16: false, true by " + (8 + i), on(x, 8 + i, no, yes), less[i]);
            due("16: tagged by " + (8 + i), on(x, 8 + i, tagged, taggedB), ERROR);
            due("16: names by " + (8 + i), on(x, 8 + i, name, name), ERROR);
            due("16: typed by " + (8 + i), on(x, 8 + i, typed, typed), ERROR);
            due("16: blanks by " + (8 + i), on(x, 8 + i, blank, blank), ERROR);
            due("16: 3, a by " + (8 + i), on(x, 8 + i, three, a), ERROR);
            due("16: 3, true by " + (8 + i), on(x, 8 + i, three, yes), ERROR);
            due("16: 3, ERROR by " + (8 + i), on(x, 8 + i, three, 0), ERROR);
        }
    }

    /** Whether the answer is this number, of this kind. */
    private static void dueNumber(String what, ExpressionDesk x, int answer, int kind, long amount, int scale) {
        due(what + ", kind", x.told(answer, 0), kind);
        due(what + ", amount", x.amount(answer), amount);
        due(what + ", scale", x.told(answer, 2), scale);
    }

    private static int made(ExpressionDesk x, Number n) {
        return n instanceof Long ? x.whole(n.longValue())
                : x.decimal(((java.math.BigDecimal) n).unscaledValue().longValue(),
                        ((java.math.BigDecimal) n).scale());
    }

    private static Number whole(long n) {
        return n;
    }

    private static Number decimal(long unscaled, int scale) {
        return java.math.BigDecimal.valueOf(unscaled, scale);
    }

    private static final char[] SIGNS = {'+', '-', '*', '/'};

    private static void dueReckoned(Number a, char sign, Number b, int kind, long amount, int scale) {
        ExpressionDesk x = new ExpressionDesk();
        int operation = 13 + new String(SIGNS).indexOf(sign);
        int answer = on(x, operation, made(x, a), made(x, b));
        dueNumber("16: " + a + " " + sign + " " + b, x, answer, kind, amount, scale);
    }

    private static void dueError(Number a, char sign, Number b) {
        ExpressionDesk x = new ExpressionDesk();
        int operation = 13 + new String(SIGNS).indexOf(sign);
        due("16: " + a + " " + sign + " " + b, on(x, operation, made(x, a), made(x, b)), ERROR);
    }

    private static void reckoningWholes() {
        dueReckoned(whole(2), '+', whole(3), 3, 5, 0);
        dueReckoned(whole(2), '-', whole(3), 3, -1, 0);
        dueReckoned(whole(2), '*', whole(3), 3, 6, 0);
        dueReckoned(whole(-2), '*', whole(3), 3, -6, 0);
        dueReckoned(whole(2), '/', whole(3), 4, 666666667, 9);
        dueReckoned(whole(3), '/', whole(2), 4, 15, 1);
        dueReckoned(whole(2), '/', whole(2), 4, 1, 0);
        dueReckoned(whole(1), '/', whole(MOST), 4, 0, 0);
        dueReckoned(whole(MOST), '/', whole(1), 4, MOST, 0);
        dueReckoned(whole(MOST), '/', whole(-MOST), 4, -1, 0);
        dueReckoned(whole(MOST), '/', whole(10), 4, MOST, 1);
        dueReckoned(whole(MOST), '/', whole(3), 4, MOST / 3, 0);
        dueReckoned(whole(MOST), '-', whole(MOST), 3, 0, 0);
        dueReckoned(whole(MOST - 1), '+', whole(1), 3, MOST, 0);
        dueReckoned(whole(100000000), '*', whole(1000000000), 3, MOST / 10 + 1, 0);
        dueError(whole(MOST), '/', whole(2));
        dueError(whole(2), '/', whole(0));
        dueError(whole(0), '/', whole(0));
        dueError(whole(MOST), '+', whole(1));
        dueError(whole(-MOST), '-', whole(1));
        dueError(whole(MOST), '*', whole(MOST));
        dueError(whole(1000000000), '*', whole(1000000000));
        dueError(whole(1000000000), '*', whole(-1000000000));
    }

    private static void reckoningDecimals() {
        dueReckoned(whole(2), '+', decimal(5, 1), 4, 25, 1);
        dueReckoned(decimal(5, 1), '+', decimal(5, 1), 4, 1, 0);
        dueReckoned(decimal(5, 1), '-', whole(3), 4, -25, 1);
        dueReckoned(decimal(1, 9), '-', whole(2), 4, -1999999999, 9);
        dueReckoned(decimal(-3, 1), '+', decimal(-8, 1), 4, -11, 1);
        dueReckoned(whole(2), '*', decimal(5, 1), 4, 1, 0);
        dueReckoned(whole(0), '*', decimal(5, 1), 4, 0, 0);
        dueReckoned(decimal(5, 1), '*', decimal(1, 9), 4, 1, 9);
        dueReckoned(decimal(-5, 1), '*', decimal(1, 9), 4, -1, 9);
        dueReckoned(decimal(49, 2), '*', decimal(1, 9), 4, 0, 0);
        dueReckoned(decimal(-1, 9), '/', whole(2), 4, -1, 9);
        dueReckoned(decimal(1, 9), '/', whole(3), 4, 0, 0);
        dueReckoned(decimal(MOST, 9), '*', decimal(1, 9), 4, 1, 0);
        dueReckoned(decimal(MOST, 9), '/', decimal(MOST, 0), 4, 1, 9);
        dueReckoned(decimal(15, 1), '/', decimal(5, 9), 4, 300000000, 0);
        dueReckoned(decimal(MOST - 4, 1), '+', decimal(5, 1), 4, MOST / 10 + 1, 0);
        dueError(whole(MOST), '/', decimal(5, 1));
        dueError(whole(MOST), '/', decimal(1, 9));
        dueError(whole(2), '/', decimal(0, 0));
        dueError(whole(MOST), '+', decimal(5, 1));
        dueError(decimal(MOST, 0), '+', decimal(1, 0));
        dueError(decimal(MOST, 0), '*', decimal(MOST, 0));
    }

    private static void roundingNumbers() {
        long[] from = {-25, -15, -5, 5, 15, 14, -14, -16, 30};
        long[] up = {-2, -1, 0, 1, 2, 2, -1, -1, 3};
        long[] down = {-3, -2, -1, 0, 1, 1, -2, -2, 3};
        long[] near = {-2, -1, 0, 1, 2, 1, -1, -2, 3};
        ExpressionDesk x = new ExpressionDesk();
        for (int i = 0; i < from.length; i++) {
            int d = x.decimal(from[i], 1);
            dueNumber("16: ceiling of " + from[i], x, on(x, 19, d), 4, up[i], 0);
            dueNumber("16: floor of " + from[i], x, on(x, 20, d), 4, down[i], 0);
            dueNumber("16: nearest to " + from[i], x, on(x, 21, d), 4, near[i], 0);
        }
        int most = x.whole(MOST);
        for (int op = 19; op <= 21; op++) {
            dueNumber("16: a whole stays by " + op, x, on(x, op, most), 3, MOST, 0);
        }
        dueNumber("16: turned round", x, on(x, 17, most), 3, -MOST, 0);
        dueNumber("16: 0 turned round", x, on(x, 17, x.decimal(0, 0)), 4, 0, 0);
        dueNumber("16: decimal turned round", x, on(x, 17, x.decimal(5, 1)), 4, -5, 1);
        dueNumber("16: without sign", x, on(x, 18, x.decimal(-5, 1)), 4, 5, 1);
        dueNumber("16: a whole without sign", x, on(x, 18, x.whole(-MOST)), 3, MOST, 0);
        dueNumber("16: without sign already", x, on(x, 18, x.whole(8)), 3, 8, 0);
    }

    private static void reckoningOthers() {
        ExpressionDesk x = new ExpressionDesk();
        int two = x.whole(2);
        int[] others = {0, plain(x, "2"), x.truth(true), x.named(2, 2)};
        for (int other : others) {
            for (int op = 13; op <= 16; op++) {
                due("16: " + op + " of 2 and " + other, on(x, op, two, other), ERROR);
                due("16: " + op + " of " + other + " and 2", on(x, op, other, two), ERROR);
            }
            for (int op = 17; op <= 21; op++) {
                due("16: " + op + " of " + other, on(x, op, other), ERROR);
            }
        }
    }

    private static void choosing() {
        ExpressionDesk x = new ExpressionDesk();
        int yes = x.truth(true);
        int no = x.truth(false);
        int one = x.whole(1);
        int two = x.whole(2);
        int name = x.named(2, 2);
        int typed = text(x, "1", 7, 1);
        due("16: IF true", on(x, 22, yes, one, two), one);
        due("16: IF false", on(x, 22, no, one, two), two);
        due("16: IF by a number", on(x, 22, two, one, name), one);
        due("16: IF, the other is an ERROR", on(x, 22, yes, one, 0), one);
        due("16: IF, the chosen is an ERROR", on(x, 22, no, one, 0), ERROR);
        due("16: IF of a name", on(x, 22, name, one, one), ERROR);
        due("16: IF of an ERROR", on(x, 22, 0, one, one), ERROR);
        due("16: first of one", on(x, 23, one), one);
        due("16: first", on(x, 23, one, two), one);
        due("16: first behind ERRORs", on(x, 23, 0, 0, two, one), two);
        due("16: first of ERRORs", on(x, 23, 0, 0), ERROR);
        due("16: IN", on(x, 24, one, two, x.decimal(1, 0)), yes);
        due("16: not IN", on(x, 24, one, two, name), no);
        due("16: IN none", on(x, 24, one), no);
        due("16: ERROR IN none", on(x, 24, 0), ERROR);
        due("16: ERROR IN", on(x, 24, 0, one), ERROR);
        due("16: IN behind an ERROR", on(x, 24, one, 0, typed, one), yes);
        due("16: not IN, with an ERROR", on(x, 24, one, 0, two), ERROR);
        due("16: not IN, with what can't be told", on(x, 24, one, typed, two), ERROR);
        int[] twenty = new int[21];
        java.util.Arrays.fill(twenty, two);
        twenty[0] = one;
        due("16: not IN twenty", on(x, 24, twenty), no);
        twenty[20] = one;
        due("16: the last IN twenty", on(x, 24, twenty), yes);
    }

    private static void cuttingTexts() {
        ExpressionDesk x = new ExpressionDesk();
        int abc = plain(x, "aBc");
        int tagged = text(x, "aBc", 6, 4);
        int typed = text(x, "aBc", 7, 4);
        int two = x.whole(2);
        int most = x.whole(MOST);
        dueNumber("16: how many bytes", x, on(x, 25, abc), 3, 3, 0);
        dueNumber("16: how many bytes, tagged", x, on(x, 25, tagged), 3, 3, 0);
        due("16: how many bytes, typed", on(x, 25, typed), ERROR);
        due("16: how many bytes of a whole", on(x, 25, two), ERROR);
        due("16: part from 2", on(x, 26, abc, two, two), plain(x, "Bc"));
        due("16: part, tagged", on(x, 26, tagged, two, x.whole(1)), text(x, "B", 6, 4));
        due("16: part from 0", on(x, 26, abc, x.whole(0), two), plain(x, "a"));
        due("16: part from below", on(x, 26, abc, x.whole(-5), x.whole(8)), plain(x, "aB"));
        due("16: part far beyond", on(x, 26, abc, two, most), plain(x, "Bc"));
        due("16: part from far beyond", on(x, 26, abc, most, most), plain(x, ""));
        due("16: part of none", on(x, 26, abc, two, x.whole(0)), plain(x, ""));
        due("16: part of fewer", on(x, 26, tagged, two, x.whole(-MOST)), text(x, "", 6, 4));
        due("16: part by a decimal", on(x, 26, abc, x.decimal(2, 0), two), ERROR);
        due("16: part of a decimal", on(x, 26, abc, two, x.decimal(2, 0)), ERROR);
        due("16: part, typed", on(x, 26, typed, two, two), ERROR);
        due("16: capitals", on(x, 27, plain(x, "azAZ@[`{1")), plain(x, "AZAZ@[`{1"));
        due("16: small", on(x, 28, plain(x, "azAZ@[`{1")), plain(x, "azaz@[`{1"));
        due("16: capitals, tagged", on(x, 27, tagged), text(x, "ABC", 6, 4));
        due("16: small, tagged", on(x, 28, tagged), text(x, "abc", 6, 4));
        due("16: capitals, typed", on(x, 27, typed), ERROR);
        due("16: small of a name", on(x, 28, x.named(2, 1)), ERROR);
        due("16: behind one another, none", on(x, 29), plain(x, ""));
        due("16: behind one another", on(x, 29, abc, abc), plain(x, "aBcaBc"));
        due("16: of one tag", on(x, 29, tagged, tagged), text(x, "aBcaBc", 6, 4));
        due("16: of two tags", on(x, 29, tagged, text(x, "x", 6, 5)), plain(x, "aBcx"));
        due("16: one without tag", on(x, 29, tagged, abc), plain(x, "aBcaBc"));
        due("16: one tagged alone", on(x, 29, tagged), tagged);
        due("16: one typed", on(x, 29, abc, typed), ERROR);
        due("16: one a whole", on(x, 29, two), ERROR);
        due("16: one an ERROR", on(x, 29, abc, 0), ERROR);
        int long63 = plain(x, repeated("x", 63));
        due("16: 64 bytes", on(x, 29, long63, plain(x, "y")), plain(x, repeated("x", 63) + "y"));
        due("16: 65 bytes", on(x, 29, long63, plain(x, "yz")), ERROR);
    }

    private static void seekingTexts() {
        ExpressionDesk x = new ExpressionDesk();
        int yes = x.truth(true);
        int no = x.truth(false);
        int text = plain(x, "abcabd");
        int ab = plain(x, "ab");
        int bd = plain(x, "bd");
        int empty = plain(x, "");
        int tagged = text(x, "abcabd", 6, 1);
        int abTagged = text(x, "ab", 6, 1);
        int abOther = text(x, "ab", 6, 2);
        int typed = text(x, "ab", 7, 1);
        due("16: begins", on(x, 30, text, ab), yes);
        due("16: does not begin", on(x, 30, text, bd), no);
        due("16: ends", on(x, 31, text, bd), yes);
        due("16: does not end", on(x, 31, text, ab), no);
        due("16: ends with what is longer", on(x, 31, ab, text), no);
        due("16: begins with what is longer", on(x, 30, ab, text), no);
        due("16: has within", on(x, 32, text, plain(x, "ca")), yes);
        due("16: has not within", on(x, 32, text, plain(x, "ba")), no);
        due("16: before", on(x, 33, text, plain(x, "c")), ab);
        due("16: before the first place", on(x, 33, text, ab), empty);
        due("16: behind the first place", on(x, 34, text, ab), plain(x, "cabd"));
        due("16: behind the end", on(x, 34, text, bd), empty);
        due("16: before, tagged", on(x, 33, tagged, plain(x, "c")), abTagged);
        due("16: behind, tagged", on(x, 34, tagged, abTagged), text(x, "cabd", 6, 1));
        due("16: before none, tagged", on(x, 33, tagged, abTagged), text(x, "", 6, 1));
        due("16: before what is not within", on(x, 33, tagged, plain(x, "x")), empty);
        due("16: behind what is not within", on(x, 34, tagged, plain(x, "x")), empty);
        due("16: before no bytes", on(x, 33, tagged, empty), text(x, "", 6, 1));
        due("16: behind no bytes", on(x, 34, tagged, empty), tagged);
        due("16: no bytes begin all", on(x, 30, empty, empty), yes);
        due("16: no bytes end all", on(x, 31, text, empty), yes);
        for (int op = 30; op <= 34; op++) {
            due("16: tagged in plain by " + op, on(x, op, text, abTagged), ERROR);
            due("16: another tag by " + op, on(x, op, tagged, abOther), ERROR);
            due("16: typed first by " + op, on(x, op, typed, ab), ERROR);
            due("16: typed second by " + op, on(x, op, text, typed), ERROR);
            due("16: typed both by " + op, on(x, op, typed, typed), ERROR);
            due("16: whole by " + op, on(x, op, text, x.whole(1)), ERROR);
            due("16: ERROR by " + op, on(x, op, text, 0), ERROR);
        }
        for (int op = 30; op <= 32; op++) {
            due("16: one tag by " + op, on(x, op, abTagged, abTagged), yes);
            due("16: plain in tagged by " + op, on(x, op, abTagged, ab), yes);
        }
    }

    private static void describing() {
        ExpressionDesk x = new ExpressionDesk();
        int[] values = {x.named(1, 5), x.named(2, 50), x.whole(-70), x.decimal(-5, 2), plain(x, "a"),
            text(x, "b", 6, 42), text(x, "c", 7, 17), x.truth(true), 0};
        String[] strings = {null, "50", "-70", "-0.05", "a", "b", "c", "true", null};
        String[] tags = {null, null, "", "", "", "42", "", "", null};
        int[] types = {ERROR, ERROR, 1002, 1003, 1000, 1001, 17, 1004, ERROR};
        for (int i = 0; i < values.length; i++) {
            due("16: STRING of " + i, on(x, 35, values[i]), strings[i] == null ? ERROR : plain(x, strings[i]));
            due("16: tag of " + i, on(x, 36, values[i]), tags[i] == null ? ERROR : plain(x, tags[i]));
            due("16: type of " + i, on(x, 37, values[i]), types[i] == ERROR ? ERROR : x.named(2, types[i]));
            boolean none = values[i] == 0;
            due("16: is name, " + i, on(x, 38, values[i]), none ? ERROR : x.truth(i == 1));
            due("16: is blank, " + i, on(x, 39, values[i]), none ? ERROR : x.truth(i == 0));
            due("16: is 3 .. 8, " + i, on(x, 40, values[i]), none ? ERROR : x.truth(i >= 2));
            due("16: is 3 or 4, " + i, on(x, 41, values[i]), none ? ERROR : x.truth(i == 2 || i == 3));
        }
        due("16: STRING of false", on(x, 35, x.truth(false)), plain(x, "false"));
        due("16: STRING of 0", on(x, 35, x.whole(0)), plain(x, "0"));
        due("16: STRING of 0.0", on(x, 35, x.decimal(0, 0)), plain(x, "0.0"));
        due("16: STRING of 3.0", on(x, 35, x.decimal(3, 0)), plain(x, "3.0"));
        due("16: STRING of -1200.0", on(x, 35, x.decimal(-1200, 0)), plain(x, "-1200.0"));
        due("16: STRING of 10.01", on(x, 35, x.decimal(1001, 2)), plain(x, "10.01"));
        due("16: STRING of the least", on(x, 35, x.decimal(-MOST, 9)), plain(x, "-999999999.999999999"));
        due("16: STRING of the most", on(x, 35, x.whole(MOST)), plain(x, "999999999999999999"));
        due("16: STRING of name 0", on(x, 35, x.named(2, 0)), plain(x, "0"));
        due("16: tag 0", on(x, 36, text(x, "", 6, 0)), plain(x, "0"));
        due("16: type 0", on(x, 37, text(x, "", 7, 0)), x.named(2, 0));
    }

    private static void stringsOfNumbers() {
        long n = 1;
        for (int digits = 1; digits <= 18; digits++) {
            ExpressionDesk x = new ExpressionDesk();
            due("16: STRING of " + n, on(x, 35, x.whole(n)), plain(x, "" + n));
            due("16: STRING of -" + n, on(x, 35, x.decimal(-n, 0)), plain(x, "-" + n + ".0"));
            n *= 10;
        }
    }

    private static void reckoningCarries() {
        // 0.999999999 and nines beyond it are rounded up to 1.
        dueReckoned(whole(MOST), '/', decimal(1000000000000L, 0), 4, 1000000, 0);
        dueReckoned(whole(-1999999999), '/', whole(2000000000), 4, -1, 0);
        dueReckoned(decimal(999999999, 9), '*', decimal(999999999, 9), 4, 999999998, 9);
    }

    /** An object that has room for so many values more; 1 is the whole 1, and the expression adds 49 times. */
    private static ExpressionDesk nearlyFull(int room) {
        ExpressionDesk x = new ExpressionDesk();
        x.whole(1);
        x.word(1, 0);
        for (int i = 0; i < 49; i++) {
            x.word(0, 1);
            x.word(13, 0);
        }
        for (int i = 1; i <= 39; i++) {
            x.bind(0, x.whole(1000L * i));
            x.run();
        }
        for (int i = 0; x.values() < 2000 - room; i++) {
            x.named(1, i);
        }
        return x;
    }

    private static void noRoom() {
        ExpressionDesk x = nearlyFull(0);
        due("11: values when full", x.values(), 2000);
        due("3: FULL", x.whole(5), FULL);
        due("3: there already", x.whole(1), 1);
        due("3: BAD before FULL", x.whole(Long.MAX_VALUE), BAD);
        due("4: FULL", x.decimal(1, 0), FULL);
        due("4: BAD before FULL", x.decimal(1, 10), BAD);
        due("5: FULL", x.truth(true), FULL);
        due("6: FULL", x.named(2, 1), FULL);
        due("6: BAD before FULL", x.named(3, 1), BAD);
        x.type('a', 1);
        due("7: FULL", x.text(5, 0), FULL);
        due("7: the tape is empty after FULL", x.type('a', 1), 1);
        due("7: BAD before FULL", x.text(5, 1), BAD);
        due("16: FULL", run(x, 0, 1, 0, 1, 6, 0), FULL);
        due("17: FULL", x.test(), FULL);
        due("16: FULL on the way", run(x, 0, 1, 0, 1, 6, 0, 0, 1, 23, 2), FULL);
        due("16: BAD before FULL", run(x, 0, 1, 0, 1, 6, 0, 0, 1), BAD);
        due("16: an ERROR needs no room", run(x, 0, 1, 0, 0, 6, 0), ERROR);
        due("16: what is there needs no room", run(x, 0, 1, 0, 1, 15, 0), 1);
        due("20: FULL", x.together(), FULL);
        x.add(1);
        due("20: there already", x.together(), 1);
        x = nearlyFull(1);
        due("16: room for one on the way", run(x, 0, 1, 0, 1, 13, 0, 0, 1, 0, 1, 6, 0, 23, 2), FULL);
        due("16: what came before it was made", x.values(), 2000);
        due("16: it is there", x.amount(2000), 2);
    }

    private static void gathering() {
        ExpressionDesk x = new ExpressionDesk();
        int comma = plain(x, ",");
        int tagged = text(x, ",", 6, 1);
        due("18: each sort", x.gather(0, false, 0), 0);
        for (int sort = 0; sort < 6; sort++) {
            due("18: between is not looked at", x.gather(sort, true, 99), 0);
        }
        due("18: JOINED", x.gather(6, false, comma), 0);
        due("19: one", x.add(comma), 1);
        due("18: sort 7", x.gather(7, false, comma), BAD);
        due("18: sort -1", x.gather(-1, false, comma), BAD);
        due("18: JOINED with 0", x.gather(6, true, 0), BAD);
        due("18: JOINED with none such", x.gather(6, true, 3), BAD);
        due("18: JOINED with a tagged one", x.gather(6, true, tagged), BAD);
        due("19: what was gathered stays", x.add(comma), 2);
        due("20: JOINED stays", x.together(), plain(x, ",,,"));
        due("18: anew", x.gather(0, true, 0), 0);
        due("19: from 1 again", x.add(comma), 1);
        due("19: there already", x.add(comma), 1);
        due("19: an ERROR", x.add(0), 2);
        due("19: an ERROR is there already", x.add(0), 2);
        due("19: none such", x.add(99), BAD);
        due("19: below 0", x.add(-1), BAD);
        due("20: COUNT", x.amount(x.together()), 1);
    }

    private static void gatheringMany() {
        ExpressionDesk x = new ExpressionDesk();
        x.whole(1);
        for (int i = 1; i <= 500; i++) {
            due("19: one more", x.add(i % 2), i);
        }
        due("19: FULL", x.add(1), FULL);
        due("19: BAD before FULL", x.add(99), BAD);
        dueNumber("20: COUNT of 250", x, x.together(), 3, 250, 0);
    }

    private static int together(ExpressionDesk x, int sort, boolean once, int... values) {
        x.gather(sort, once, 0);
        for (int value : values) {
            x.add(value);
        }
        return x.together();
    }

    private static void sums() {
        ExpressionDesk x = new ExpressionDesk();
        int one = x.whole(1);
        int two = x.whole(2);
        int half = x.decimal(5, 1);
        int most = x.whole(MOST);
        int least = x.whole(-MOST);
        int name = x.named(2, 1);
        dueNumber("20: SUM of none", x, together(x, 1, false), 3, 0, 0);
        dueNumber("20: SUM", x, together(x, 1, false, one, two, two), 3, 5, 0);
        dueNumber("20: SUM of each once", x, together(x, 1, true, one, two, two), 3, 3, 0);
        dueNumber("20: SUM with a decimal", x, together(x, 1, false, one, half, half), 4, 2, 0);
        due("20: SUM with an ERROR", together(x, 1, false, one, 0), ERROR);
        due("20: SUM with a name", together(x, 1, false, one, name), ERROR);
        due("20: SUM with a truth", together(x, 1, false, x.truth(true)), ERROR);
        due("20: SUM too great on the way", together(x, 1, false, most, one, least), ERROR);
        dueNumber("20: SUM in another order", x, together(x, 1, false, most, least, one), 3, 1, 0);
        dueNumber("20: AVERAGE of none", x, together(x, 4, false), 3, 0, 0);
        dueNumber("20: AVERAGE", x, together(x, 4, false, one, two), 4, 15, 1);
        dueNumber("20: AVERAGE of one", x, together(x, 4, false, two), 4, 2, 0);
        dueNumber("20: AVERAGE rounded", x, together(x, 4, false, one, one, x.whole(0)), 4, 666666667, 9);
        dueNumber("20: AVERAGE of each once", x, together(x, 4, true, one, one, two), 4, 15, 1);
        due("20: AVERAGE with an ERROR", together(x, 4, false, one, 0), ERROR);
        due("20: AVERAGE with a name", together(x, 4, false, one, name), ERROR);
        due("20: AVERAGE too great on the way", together(x, 4, false, most, one), ERROR);
        int before = x.values();
        dueNumber("20: AVERAGE of a sum", x, together(x, 4, false, x.whole(100), x.whole(20)), 4, 60, 0);
        due("20: its sum is not made", x.values(), before + 3);
    }

    private static void extremes() {
        ExpressionDesk x = new ExpressionDesk();
        int three0 = x.decimal(3, 0);
        int three = x.whole(3);
        int blank = x.named(1, 7);
        int yes = x.truth(true);
        int typed = text(x, "zz", 7, 1);
        for (int sort = 2; sort <= 5; sort += 3) {
            due("20: least by sort " + sort, together(x, sort, false, yes, three0, three, typed), three);
            due("20: least, a blank, by sort " + sort, together(x, sort, true, 0, yes, blank, three), blank);
            due("20: least of none by sort " + sort, together(x, sort, false), ERROR);
            due("20: least of ERRORs by sort " + sort, together(x, sort, false, 0, 0), ERROR);
        }
        due("20: GREATEST", together(x, 3, false, three0, yes, typed, 0), yes);
        due("20: GREATEST of 3 and 3.0", together(x, 3, false, three0, three), three0);
        due("20: GREATEST of none", together(x, 3, false), ERROR);
        due("20: GREATEST of ERRORs", together(x, 3, true, 0), ERROR);
        dueNumber("20: COUNT", x, together(x, 0, false, 0, yes, yes, blank, 0), 3, 3, 0);
        dueNumber("20: COUNT of each once", x, together(x, 0, true, 0, yes, yes, blank, 0), 3, 2, 0);
    }

    private static int joined(ExpressionDesk x, int between, boolean once, int... values) {
        x.gather(6, once, between);
        for (int value : values) {
            x.add(value);
        }
        return x.together();
    }

    private static void joins() {
        ExpressionDesk x = new ExpressionDesk();
        int comma = plain(x, ", ");
        int empty = plain(x, "");
        int a = plain(x, "a");
        int b = plain(x, "b");
        int name = x.named(2, 12);
        int half = x.decimal(5, 1);
        int two = x.whole(2);
        int yes = x.truth(true);
        int tagged = text(x, "T", 6, 1);
        int typed = text(x, "U", 7, 1);
        due("20: JOINED of none", joined(x, comma, false), empty);
        due("20: JOINED of one", joined(x, comma, false, b), b);
        due("20: JOINED by the order", joined(x, comma, false, yes, typed, tagged, b, a, two, half, name),
                plain(x, "12, 0.5, 2, a, b, T, U, true"));
        due("20: JOINED, twice", joined(x, comma, false, b, a, b), plain(x, "a, b, b"));
        due("20: JOINED, each once", joined(x, comma, true, b, a, b), plain(x, "a, b"));
        due("20: JOINED with nothing between", joined(x, empty, false, b, a, b), plain(x, "abb"));
        due("20: JOINED with an ERROR", joined(x, comma, false, a, 0), ERROR);
        due("20: JOINED with a blank", joined(x, comma, false, a, x.named(1, 1)), ERROR);
        int long31 = plain(x, repeated("y", 31));
        due("20: JOINED, 64 bytes", joined(x, comma, false, long31, long31),
                plain(x, repeated("y", 31) + ", " + repeated("y", 31)));
        due("20: JOINED, 65 bytes", joined(x, comma, false, long31, plain(x, repeated("y", 32))), ERROR);
        due("20: JOINED, kept as it was", x.add(a), 3);
        due("20: JOINED of no bytes", joined(x, comma, false, empty, empty), comma);
    }

    public static void main(String[] args) {
        due("the constant BAD", ExpressionDesk.BAD, BAD);
        due("the constant NO", ExpressionDesk.NO, -2);
        due("the constant FULL", ExpressionDesk.FULL, FULL);
        due("the constant ERROR", ExpressionDesk.ERROR, ERROR);
        newObject();
        type();
        numbers();
        truthsAndNames();
        texts();
        telling();
        order();
        words();
        binding();
        running();
        truthOfValues();
        comparing();
        reckoningWholes();
        reckoningDecimals();
        roundingNumbers();
        reckoningOthers();
        choosing();
        cuttingTexts();
        seekingTexts();
        describing();
        stringsOfNumbers();
        reckoningCarries();
        noRoom();
        gathering();
        gatheringMany();
        sums();
        extremes();
        joins();
        System.out.println(wrong == 0 ? "all promises hold" : wrong + " answers are not as due");
        if (wrong != 0) {
            System.exit(1);
        }
    }
}
