/** The boundaries of VALUES and THE ORDER, of the promises 1 to 12, and of how many calls an object is used for. */
public final class ValueBoundaryTests {
    private static final int BAD = -1;
    private static final int FULL = -3;
    private static final long MOST = 999999999999999999L;
    private static final String DELETE = "\u007f";
    private static final int[] FAR = {Integer.MIN_VALUE, Integer.MIN_VALUE + 1, Integer.MAX_VALUE};

    /** "An object is used for at most 512 calls after it has been made." */
    private static void the512thCallAnswers() {
        Desk d = new Desk();
        for (int i = 1; i < Desk.MOST_CALLS; i++) {
            Due.is("call " + i, d.whole(i), i);
        }
        Due.is("the 512th call", d.values(), 511);
        Due.is("as many calls as an object has", d.calls(), 512);
    }

    private static void theConstants() {
        Due.is("BAD", ExpressionDesk.BAD, -1);
        Due.is("NO", ExpressionDesk.NO, -2);
        Due.is("FULL", ExpressionDesk.FULL, -3);
        Due.is("ERROR", ExpressionDesk.ERROR, -4);
    }

    /** "Values are kept once each": what differs in anything is another one. */
    private static void valuesAreKeptOnceEach() {
        String[] different = {"?5", ":5", "?6", ":6", "5", "5.0", "0.5", "0.05", "-5", "-5.0", "''", "''@0", "''^0",
            "''@5", "''^5", "'5'", "'5'@0", "'5'@5", "'5'^5", "'5'^0", "'55'", "true", "false", "1", "0", "0.0",
            "1.0", "?0", ":0", "?1", ":1"};
        Desk d = new Desk();
        for (int i = 0; i < different.length; i++) {
            Due.is(different[i] + " is made", d.value(different[i]), i + 1);
        }
        for (int i = 0; i < different.length; i++) {
            Due.is(different[i] + " is there", d.value(different[i]), i + 1);
        }
        Due.is("values kept once each", d.values(), different.length);
    }

    /** The same of texts that differ in one byte alone, at each place. */
    private static void textsThatDifferInOneByte() {
        for (int place = 0; place < 8; place++) {
            Desk d = new Desk();
            for (int round = 0; round < 2; round++) {
                for (int b = 1; b <= 127; b++) {
                    String s = "x".repeat(place) + (char) b + "x".repeat(7 - place);
                    Due.is("byte " + b + " at " + place, d.text(s, 5, 0), b);
                }
            }
        }
    }

    /** "Numbered from 1". */
    private static void valuesAreNumberedFrom1() {
        Desk d = new Desk();
        Due.is("1 before there is one", d.told(1, 0), BAD);
        Due.is("the first one", d.whole(70), 1);
        Due.is("the second one", d.whole(71), 2);
        Due.is("told of 0", d.told(0, 0), BAD);
        Due.is("amount of 0", d.amount(0), 0);
        Due.is("told of 1", d.told(1, 0), 3);
        Due.is("amount of 1", d.amount(1), 70);
        Due.is("told of 2", d.told(2, 0), 3);
        Due.is("amount of 2", d.amount(2), 71);
        Due.is("told of 3", d.told(3, 0), BAD);
        Due.is("amount of 3", d.amount(3), 0);
    }

    /** "At most 2000", for every call that makes one of its own arguments. */
    private static void thereAreAtMost2000Values() {
        String[] made = {"0", "-7", "0.0", "0.5", "true", "false", "?9999", ":0", "''", "'a'", "'a'@3", "'a'^3"};
        for (String written : made) {
            Desk d = Desk.withRoom(1);
            Due.is("values before " + written, d.values(), 1999);
            Due.is(written + " is the 2000th", d.value(written), 2000);
            Due.is(written + " is there", d.value(written), 2000);
            Due.is(written + " as it was made", d.show(2000), written);
            Due.is("value 2001 after " + written, d.told(2001, 0), BAD);
            d = Desk.withRoom(0);
            Due.is(written + " is the 2001st", d.value(written), FULL);
            Due.is(written + " is refused again", d.value(written), FULL);
            Due.is("values after " + written, d.values(), 2000);
            Due.is("the 1 is there", d.value("1"), 1);
            Due.is("the comma is there", d.value("','"), 2);
        }
    }

    /** Every value of a full object keeps its number. */
    private static void allOf2000Values() {
        Desk d = Desk.withRoom(0);
        for (int i = 1; i <= 39; i++) {
            Due.is("a value on the way", d.whole(1000L * i + 49), 2 + 50 * i);
        }
        Due.is("the last blank", d.named(1, 47), 2000);
        Due.is("the blank that is none", d.named(1, 48), FULL);
    }

    /** Promise 1: "No values; an empty tape; an expression without words; nothing is bound; nothing is gathered". */
    private static void aNewObjectHasNothing() {
        Desk d = new Desk();
        Due.is("new: values", d.values(), 0);
        Due.is("new: no value 1", d.told(1, 0), BAD);
        Due.is("new: words", d.begin(), 0);
        Due.is("new: run", d.run(), BAD);
        Due.is("new: test", d.test(), BAD);
        Due.is("new: the first byte", d.type('a', 1), 1);
        Due.is("new: the first word", d.word(29, 0), 1);
        for (int variable = 0; variable <= 9; variable++) {
            Due.gives("#1/" + variable, "ERROR");
            Due.gives("#2/" + variable, "false");
        }
        Due.is("new: the empty tape as a text", new Desk().text(5, 0), 1);
        d = new Desk();
        Due.is("new: COUNT of none", d.show(d.together()), "0");
        Due.is("new: the first gathered", d.add(1), 1);
        Due.is("new: not only once", d.add(1), 2);
        Due.is("new: a COUNT", d.show(d.together()), "2");
        Due.is("new: an ERROR", d.add(0), 3);
        Due.is("new: not an ERROR only once", d.add(0), 4);
        Due.is("new: a COUNT of no ERRORs", d.show(d.together()), "2");
    }

    /** Promise 2: "BAD when n is not 1 .. 8". */
    private static void typeTakes1To8Bytes() {
        int[] wrong = {0, -1, 9, 64, Integer.MIN_VALUE, Integer.MAX_VALUE};
        for (int n : wrong) {
            Desk d = new Desk();
            Due.is("type of " + n, d.type(0x6162636465666768L, n), BAD);
            Due.is("none came of " + n, d.type('z', 1), 1);
        }
        String eight = "abcdefgh";
        for (int n = 1; n <= 8; n++) {
            Desk d = new Desk();
            Due.is("type of " + n, d.type(0x6162636465666768L, n), n);
            Due.is("the lowest " + n, d.show(d.text(5, 0)), "'" + eight.substring(8 - n) + "'");
        }
    }

    /** Promise 2: "then FULL when it would have more than 64 (none comes)". */
    private static void theTapeHas64Bytes() {
        for (int n = 1; n <= 8; n++) {
            String begun = "x".repeat(64 - n);
            Desk d = new Desk();
            Due.is("begun", d.typeAll(begun), 64 - n);
            Due.is("up to 64 by " + n, d.type(0x6162636465666768L, n), 64);
            Due.is("beyond 64", d.type('z', 1), FULL);
            Due.is("BAD comes first at 64, n 0", d.type('z', 0), BAD);
            Due.is("BAD comes first at 64, n 9", d.type('z', 9), BAD);
            Due.is("64 bytes", d.show(d.text(5, 0)), "'" + begun + "abcdefgh".substring(8 - n) + "'");
            d = new Desk();
            d.typeAll(begun + "x");
            Due.is("up to 65 by " + n, d.type(0x6162636465666768L, n), FULL);
            Due.is("none came", d.type('z', 1), n == 1 ? FULL : 66 - n);
        }
    }

    /** Promise 3, and "less than 10^18 in size": "BAD when it is none". */
    private static void wholesAreLessThan10To18() {
        long[] right = {0, 1, -1, MOST, -MOST, MOST - 1, 1 - MOST, 1L << 32, -(1L << 32)};
        for (long v : right) {
            Desk d = new Desk();
            Due.is("whole " + v, d.whole(v), 1);
            Due.is("kind of whole " + v, d.told(1, 0), 3);
            Due.is("amount of whole " + v, d.amount(1), v);
        }
        long[] wrong = {MOST + 1, -MOST - 1, MOST + 2, -MOST - 2, Long.MAX_VALUE, Long.MIN_VALUE, Long.MIN_VALUE + 1};
        for (long v : wrong) {
            Desk d = new Desk();
            Due.is("whole " + v, d.whole(v), BAD);
            Due.is("none made of " + v, d.values(), 0);
        }
    }

    /** Promise 4: "BAD when scale is not 0 .. 9 or unscaled is none". */
    private static void decimalsHaveScale0To9() {
        for (int scale = 0; scale <= 9; scale++) {
            for (long unscaled : new long[] {1, -1, MOST, -MOST}) {
                Desk d = new Desk();
                Due.is("decimal " + unscaled + ", " + scale, d.decimal(unscaled, scale), 1);
                Due.is("its kind", d.told(1, 0), 4);
                Due.is("its unscaled", d.amount(1), unscaled);
                Due.is("its scale", d.told(1, 2), scale);
            }
            for (long unscaled : new long[] {MOST + 1, -MOST - 1, Long.MAX_VALUE, Long.MIN_VALUE}) {
                Desk d = new Desk();
                Due.is("decimal " + unscaled + ", " + scale, d.decimal(unscaled, scale), BAD);
                Due.is("none made", d.values(), 0);
            }
        }
        for (int scale : new int[] {-1, 10, 18, Integer.MIN_VALUE, Integer.MAX_VALUE}) {
            for (long unscaled : new long[] {0, 1, 10, MOST, Long.MIN_VALUE}) {
                Desk d = new Desk();
                Due.is("decimal " + unscaled + ", " + scale, d.decimal(unscaled, scale), BAD);
                Due.is("none made", d.values(), 0);
            }
        }
    }

    private static void dueLeast(long unscaled, int scale, long leastUnscaled, int leastScale) {
        Desk d = new Desk();
        int number = d.decimal(unscaled, scale);
        Due.is("unscaled of " + unscaled + ", " + scale, d.amount(number), leastUnscaled);
        Due.is("scale of " + unscaled + ", " + scale, d.told(number, 2), leastScale);
        Due.is("made with the least", d.decimal(leastUnscaled, leastScale), number);
    }

    /** Promise 4: "told with its least scale". */
    private static void decimalsHaveTheLeastScale() {
        for (int sign = -1; sign <= 1; sign += 2) {
            dueLeast(sign * 10, 0, sign * 10, 0);
            dueLeast(sign * 10, 1, sign, 0);
            dueLeast(sign * 11, 1, sign * 11, 1);
            dueLeast(sign * 9, 1, sign * 9, 1);
            dueLeast(sign * 100, 1, sign * 10, 0);
            dueLeast(sign * 10, 2, sign, 1);
            dueLeast(sign * 1000000000L, 9, sign, 0);
            dueLeast(sign * 10000000000L, 9, sign * 10, 0);
            dueLeast(sign * 100000000L, 9, sign, 1);
            dueLeast(sign * 1000000001L, 9, sign * 1000000001L, 9);
            dueLeast(sign * 10, 9, sign, 8);
            dueLeast(sign, 9, sign, 9);
            dueLeast(sign * (MOST - 9), 9, sign * (MOST / 10), 8);
            dueLeast(sign * 100000000000000000L, 9, sign * 100000000L, 0);
        }
        for (int scale = 0; scale <= 9; scale++) {
            dueLeast(0, scale, 0, 0);
        }
    }

    /** Promise 5, both of them. */
    private static void truths() {
        Desk d = new Desk();
        Due.is("false is told as 0", d.told(d.truth(false), 1), 0);
        Due.is("true is told as 1", d.told(d.truth(true), 1), 1);
        Due.is("false and true are two", d.values(), 2);
    }

    /** Promise 6: "BAD for another kind, or when the number is not 0 .. 9999". */
    private static void namesHaveNumbers0To9999() {
        for (int kind = 1; kind <= 2; kind++) {
            for (int number : new int[] {0, 1, 9998, 9999}) {
                Desk d = new Desk();
                Due.is("named " + kind + ", " + number, d.named(kind, number), 1);
                Due.is("its kind", d.told(1, 0), kind);
                Due.is("its number", d.told(1, 1), number);
            }
            for (int number : new int[] {-1, 10000, Integer.MIN_VALUE, Integer.MAX_VALUE}) {
                Desk d = new Desk();
                Due.is("named " + kind + ", " + number, d.named(kind, number), BAD);
                Due.is("none made", d.values(), 0);
            }
        }
        for (int kind : new int[] {0, -1, 3, 4, 5, 6, 7, 8, 9, Integer.MIN_VALUE, Integer.MAX_VALUE}) {
            Desk d = new Desk();
            Due.is("named " + kind, d.named(kind, 5), BAD);
            Due.is("none made", d.values(), 0);
        }
        Desk full = Desk.withRoom(0);
        Due.is("BAD comes before FULL, number -1", full.named(1, -1), BAD);
        Due.is("BAD comes before FULL, number 10000", full.named(2, 10000), BAD);
        Due.is("BAD comes before FULL, kind 0", full.named(0, 0), BAD);
        Due.is("BAD comes before FULL, kind 3", full.named(3, 0), BAD);
        Due.is("BAD comes before FULL, whole", full.whole(MOST + 1), BAD);
        Due.is("BAD comes before FULL, scale -1", full.decimal(5, -1), BAD);
        Due.is("BAD comes before FULL, scale 10", full.decimal(5, 10), BAD);
        Due.is("BAD comes before FULL, unscaled", full.decimal(-MOST - 1, 0), BAD);
    }

    /** Promise 7: "of kind 5 (extra 0), 6 or 7 (a tag or type)", "BAD for another kind or extra". */
    private static void textsHaveKinds5To7AndTags0To99() {
        int[][] right = {{5, 0}, {6, 0}, {6, 1}, {6, 98}, {6, 99}, {7, 0}, {7, 1}, {7, 98}, {7, 99}};
        for (int[] r : right) {
            Desk d = new Desk();
            Due.is("text " + r[0] + ", " + r[1], d.text("ab", r[0], r[1]), 1);
            Due.is("its kind", d.told(1, 0), r[0]);
            Due.is("its tag or type", d.told(1, 1), r[1]);
            Due.is("the tape is empty", d.type('z', 1), 1);
        }
        int[][] wrong = {{5, 1}, {5, -1}, {5, 99}, {6, -1}, {6, 100}, {7, -1}, {7, 100}, {4, 0}, {8, 0}, {0, 0},
            {-1, 0}, {3, 0}, {9, 0}, {1, 0}, {2, 0}, {6, Integer.MAX_VALUE}, {7, Integer.MIN_VALUE},
            {Integer.MAX_VALUE, 0}, {Integer.MIN_VALUE, 0}};
        Desk full = Desk.withRoom(0);
        for (int[] w : wrong) {
            Desk d = new Desk();
            Due.is("text " + w[0] + ", " + w[1], d.text("ab", w[0], w[1]), BAD);
            Due.is("none made", d.values(), 0);
            Due.is("the tape is empty after BAD", d.type('z', 1), 1);
            Due.is("BAD before FULL of text " + w[0] + ", " + w[1], full.text("ab", w[0], w[1]), BAD);
        }
    }

    /** Promise 7: "BAD .. when it has a byte 0 or above 127", wherever it stands. */
    private static void textsHaveBytes1To127() {
        for (int kind = 5; kind <= 7; kind++) {
            for (int place : new int[] {0, 1, 31, 62, 63}) {
                String before = "x".repeat(place);
                String behind = "x".repeat(63 - place);
                for (char right : new char[] {1, 2, 126, 127}) {
                    Desk d = new Desk();
                    Due.is("byte " + (int) right + " at " + place, d.text(before + right + behind, kind, 0), 1);
                    Due.is("as it was typed", d.byteOf(1, place), right);
                }
                for (char wrong : new char[] {0, 128, 129, 254, 255}) {
                    Desk d = new Desk();
                    Due.is("byte " + (int) wrong + " at " + place, d.text(before + wrong + behind, kind, 0), BAD);
                    Due.is("none made", d.values(), 0);
                    Due.is("the tape is empty after BAD", d.type('z', 1), 1);
                }
            }
            Due.is("BAD before FULL by a byte 0", Desk.withRoom(0).text("\0", kind, 0), BAD);
            Due.is("BAD before FULL by a byte 128", Desk.withRoom(0).text("\u0080", kind, 0), BAD);
        }
    }

    /** "0 .. 64 bytes". */
    private static void textsHave0To64Bytes() {
        for (int kind = 5; kind <= 7; kind++) {
            for (int n : new int[] {0, 1, 63, 64}) {
                Desk d = new Desk();
                Due.is("a text of " + n, d.text("y".repeat(n), kind, 0), 1);
                Due.is("how many bytes", d.told(1, 3), n);
                Due.is("the byte behind the last", d.byteOf(1, n), BAD);
                Due.is("the last byte", d.byteOf(1, n - 1), n == 0 ? BAD : 'y');
            }
        }
    }

    /** Promise 7: "the tape is empty then, whatever the answer". */
    private static void theTapeIsEmptyAfterText() {
        Desk d = Desk.withRoom(1);
        d.text("ab", 5, 0);
        Due.is("after a text that was made", d.type('z', 1), 1);
        Due.is("FULL", d.text(5, 0), FULL);
        Due.is("after FULL", d.type('z', 1), 1);
        d.text(6, 100);
        Due.is("after BAD", d.type('z', 1), 1);
        d.text(6, 100);
        Due.is("a text that is there", d.text("ab", 5, 0), 2000);
        Due.is("after a text that was there", d.type('z', 1), 1);
    }

    /** Tape, expression, variables and what is gathered are changed by their own calls alone. */
    private static void eachCallChangesItsOwn() {
        Desk d = new Desk();
        int ab = d.value("'AB'");
        int comma = d.value("','");
        d.bind(3, ab);
        d.express("#1/3 #28");
        d.gather(6, false, comma);
        d.add(ab);
        d.add(ab);
        d.typeAll("tape");
        Due.is("run", d.show(d.run()), "'ab'");
        Due.is("together", d.show(d.together()), "'AB,AB'");
        Due.is("test", d.test(), 1);
        d.whole(5);
        d.whole(Long.MAX_VALUE);
        d.decimal(5, 1);
        d.truth(true);
        d.named(1, 5);
        d.named(9, 5);
        d.bind(4, ab);
        d.gather(9, false, 0);
        d.add(-1);
        d.word(99, 0);
        Due.is("the tape stays", d.type('s', 1), 5);
        Due.is("the tape as a text", d.show(d.text(5, 0)), "'tapes'");
        Due.is("the expression stays", d.show(d.run()), "'ab'");
        Due.is("what was gathered stays", d.show(d.together()), "'AB,AB'");
        Due.is("two words", d.begin(), 2);
        Due.is("what was gathered stays after begin", d.add(ab), 3);
        d.gather(0, false, 0);
        d.word(1, 3);
        Due.is("the variable stays after begin and gather", d.run(), ab);
        d.text("xy", 6, 1);
        Due.is("the expression stays after text", d.run(), ab);
    }

    /** Promise 8: "BAD when there is none such, or another what", and the zeros for others. */
    private static void tellingHas4Sides() {
        String[] all = {"?12", ":34", "56", "-7.89", "'abc'", "'de'@7", "'f'^8", "true", "false"};
        int[][] want = {{1, 12, 0, 0}, {2, 34, 0, 0}, {3, 0, 0, 0}, {4, 0, 2, 0}, {5, 0, 0, 3}, {6, 7, 0, 2},
            {7, 8, 0, 1}, {8, 1, 0, 0}, {8, 0, 0, 0}};
        long[] amounts = {0, 0, 56, -789, 0, 0, 0, 0, 0};
        Desk d = new Desk();
        d.allValues(String.join(" ", all));
        for (int i = 0; i < all.length; i++) {
            for (int what = 0; what <= 3; what++) {
                Due.is("told " + what + " of " + all[i], d.told(i + 1, what), want[i][what]);
            }
            Due.is("told -1 of " + all[i], d.told(i + 1, -1), BAD);
            Due.is("told 4 of " + all[i], d.told(i + 1, 4), BAD);
            Due.is("amount of " + all[i], d.amount(i + 1), amounts[i]);
            for (int far : FAR) {
                Due.is("told " + far + " of " + all[i], d.told(i + 1, far), BAD);
                Due.is("told of " + far, d.told(far, 0), BAD);
                Due.is("amount of " + far, d.amount(far), 0);
            }
        }
        for (int what = -1; what <= 4; what++) {
            Due.is("told " + what + " of -1", d.told(-1, what), BAD);
            Due.is("told " + what + " of 0", d.told(0, what), BAD);
            Due.is("told " + what + " of 10", d.told(10, what), BAD);
        }
        Due.is("amount of -1", d.amount(-1), 0);
        Due.is("amount of 10", d.amount(10), 0);
    }

    /** Promise 10: "BAD when there is none"; bytes are counted from 0. */
    private static void bytesOfTextsAlone() {
        Desk d = new Desk();
        int[] texts = d.allValues("'abc' 'abc'@1 'abc'^1");
        int[] others = d.allValues("'' ''@1 ''^1 7 0.7 ?97 :97 true");
        for (int text : texts) {
            Due.is("byte -1", d.byteOf(text, -1), BAD);
            Due.is("byte 0", d.byteOf(text, 0), 'a');
            Due.is("byte 2", d.byteOf(text, 2), 'c');
            Due.is("byte 3", d.byteOf(text, 3), BAD);
            for (int far : FAR) {
                Due.is("byte " + far, d.byteOf(text, far), BAD);
                Due.is("byte 0 of value " + far, d.byteOf(far, 0), BAD);
            }
        }
        for (int other : others) {
            Due.is("byte -1 of " + other, d.byteOf(other, -1), BAD);
            Due.is("byte 0 of " + other, d.byteOf(other, 0), BAD);
            Due.is("byte 1 of " + other, d.byteOf(other, 1), BAD);
        }
        Due.is("byte 0 of value -1", d.byteOf(-1, 0), BAD);
        Due.is("byte 0 of value 0", d.byteOf(0, 0), BAD);
        Due.is("byte 0 of value 12", d.byteOf(12, 0), BAD);
    }

    /** Promise 11, from none to all. */
    private static void valuesAreCounted() {
        Desk d = new Desk();
        Due.is("values of none", d.values(), 0);
        d.whole(5);
        Due.is("values of one", d.values(), 1);
        d.whole(5);
        Due.is("values, one twice", d.values(), 1);
        d.whole(MOST + 1);
        Due.is("values after BAD", d.values(), 1);
        d = Desk.withRoom(1);
        Due.is("values before the last", d.values(), 1999);
        d.whole(0);
        Due.is("values with the last", d.values(), 2000);
        d.whole(2);
        Due.is("values after FULL", d.values(), 2000);
    }

    private static void dueBefore(String first, String second) {
        Desk d = new Desk();
        int a = d.value(first);
        int b = d.value(second);
        Due.is(first + " before " + second, d.order(a, b), -1);
        Due.is(second + " behind " + first, d.order(b, a), 1);
        Due.is(first + " with itself", d.order(a, a), 0);
        Due.is(second + " with itself", d.order(b, b), 0);
    }

    /** Each but the last one before its next one, and before all others behind it. */
    private static void dueRising(String... rising) {
        for (int i = 0; i < rising.length; i++) {
            for (int j = i + 1; j < rising.length; j++) {
                dueBefore(rising[i], rising[j]);
            }
        }
    }

    /** THE ORDER "by kinds, 1, 2, then 3 and 4 together, 5, 6, 7, 8": the last of each before the first of the next. */
    private static void theOrderIsByKinds() {
        String last = DELETE.repeat(64);
        dueRising("?0", "?9999", ":0", ":9999", "-" + MOST, "-" + MOST + ".0", MOST + "", MOST + ".0", "''",
                "'" + last + "'", "''@0", "'" + last + "'@99", "''^0", "'" + last + "'^99", "false", "true");
    }

    /** "Blanks, names by their numbers". */
    private static void blanksAndNamesByNumbers() {
        dueRising("?0", "?1", "?9", "?10", "?99", "?100", "?9998", "?9999");
        dueRising(":0", ":1", ":9", ":10", ":99", ":100", ":9998", ":9999");
    }

    /** "3 and 4 by value, a whole before a decimal". */
    private static void numbersByValue() {
        dueRising("-" + MOST, "-" + MOST + ".0", "-999999999999999998", "-99999999999999999.9", "-1000000000.0",
                "-999999999.999999999", "-3.000000001", "-3", "-3.0", "-2.999999999", "-0.1", "-0.09",
                "-0.000000001", "0", "0.0", "0.000000001", "0.09", "0.1", "0.29", "0.3", "2.999999999", "3", "3.0",
                "3.000000001", "999999999.999999999", "1000000000", "1000000000.0", "99999999999999999.9",
                "100000000000000000", "100000000000000000.0", "999999999999999998.0", MOST + "", MOST + ".0");
    }

    /** "Texts by their bytes (the first that differ; a row that is the beginning of another one first)". */
    private static void textsByBytesThenTags() {
        String x63 = "x".repeat(63);
        for (String extra : new String[] {"", "@0", "@99", "^0", "^99"}) {
            dueRising("''" + extra, "'\u0001'" + extra, "'A'" + extra, "'Z'" + extra, "'a'" + extra,
                    "'a\u0001'" + extra, "'aa'" + extra, "'az'" + extra, "'b'" + extra, "'ba'" + extra,
                    "'" + x63 + "'" + extra, "'" + x63 + "a'" + extra, "'" + x63 + "b'" + extra,
                    "'" + DELETE + "'" + extra);
        }
        for (String sign : new String[] {"@", "^"}) {
            dueRising("''" + sign + "0", "''" + sign + "99", "'a'" + sign + "0", "'a'" + sign + "1", "'a'" + sign + "9",
                    "'a'" + sign + "10", "'a'" + sign + "98", "'a'" + sign + "99", "'aa'" + sign + "0",
                    "'b'" + sign + "0");
        }
    }

    /** Promise 12: "2 when one is none". */
    private static void theOrderOfNone() {
        Desk d = new Desk();
        Due.is("the order of no values", d.order(1, 1), 2);
        d.whole(8);
        d.whole(9);
        Due.is("the first one and itself", d.order(1, 1), 0);
        Due.is("the first one and the last", d.order(1, 2), -1);
        Due.is("the last one and the first", d.order(2, 1), 1);
        int[] none = {0, -1, 3, Integer.MIN_VALUE, Integer.MAX_VALUE};
        for (int n : none) {
            Due.is(n + " and 1", d.order(n, 1), 2);
            Due.is("1 and " + n, d.order(1, n), 2);
            Due.is("2 and " + n, d.order(2, n), 2);
            Due.is(n + " and itself", d.order(n, n), 2);
        }
    }

    public static void main(String[] args) {
        the512thCallAnswers();
        theConstants();
        valuesAreKeptOnceEach();
        textsThatDifferInOneByte();
        valuesAreNumberedFrom1();
        thereAreAtMost2000Values();
        allOf2000Values();
        aNewObjectHasNothing();
        typeTakes1To8Bytes();
        theTapeHas64Bytes();
        wholesAreLessThan10To18();
        decimalsHaveScale0To9();
        decimalsHaveTheLeastScale();
        truths();
        namesHaveNumbers0To9999();
        textsHaveKinds5To7AndTags0To99();
        textsHaveBytes1To127();
        textsHave0To64Bytes();
        theTapeIsEmptyAfterText();
        eachCallChangesItsOwn();
        tellingHas4Sides();
        bytesOfTextsAlone();
        valuesAreCounted();
        theOrderIsByKinds();
        blanksAndNamesByNumbers();
        numbersByValue();
        textsByBytesThenTags();
        theOrderOfNone();
        Due.end("ValueBoundaryTests");
    }
}
