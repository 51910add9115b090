import java.util.ArrayList;
import java.util.Arrays;

/** Values kept once each, expressions over them, and what many values are together. */
public final class ExpressionDesk {
    public static final int BAD = -1;
    public static final int NO = -2;
    public static final int FULL = -3;
    public static final int ERROR = -4;

    // The kind of what is no value: an ERROR on the stack or among what was gathered reads as such.
    private static final int NONE = 0;
    private static final int BLANK = 1;
    private static final int NAME = 2;
    private static final int WHOLE = 3;
    private static final int DECIMAL = 4;
    private static final int TEXT = 5;
    private static final int TAGGED = 6;
    private static final int TYPED = 7;
    private static final int TRUTH = 8;

    private static final int MOST_VALUES = 2000;
    private static final int MOST_BYTES = 64;
    private static final int MOST_WORDS = 100;
    private static final int MOST_GATHERED = 500;
    private static final int MOST_SCALE = 9;
    private static final int HIGHEST_NUMBER = 9999;
    private static final int HIGHEST_TAG = 99;
    private static final int VARIABLES = 10;

    private static final long LIMIT = 1000000000000000000L;
    private static final long BILLION = 1000000000L;
    private static final long[] POWERS = {
        1L, 10L, 100L, 1000L, 10000L, 100000L, 1000000L, 10000000L, 100000000L, 1000000000L,
        10000000000L, 100000000000L, 1000000000000L, 10000000000000L, 100000000000000L,
        1000000000000000L, 10000000000000000L, 100000000000000000L, 1000000000000000000L
    };
    private static final byte[] NO_BYTES = {};

    private final Store store;
    private final Row tape;
    private final Expression expression;
    private final Gathering gathering;

    public ExpressionDesk() {
        store = new Store();
        tape = new Row();
        expression = new Expression(store);
        gathering = new Gathering(store);
    }

    public int type(long bytes, int n) {
        if (n < 1 || n > 8) {
            return BAD;
        }
        if (tape.length + n > MOST_BYTES) {
            return FULL;
        }
        for (int i = n - 1; i >= 0; i--) {
            tape.put((int) (bytes >>> (8 * i)));
        }
        return tape.length;
    }

    public int whole(long v) {
        return isInSize(v) ? store.keepNumber(WHOLE, v, 0) : BAD;
    }

    public int decimal(long unscaled, int scale) {
        if (scale < 0 || scale > MOST_SCALE || !isInSize(unscaled)) {
            return BAD;
        }
        long least = unscaled;
        int digits = scale;
        while (digits > 0 && least % 10 == 0) {
            least /= 10;
            digits--;
        }
        return store.keepNumber(DECIMAL, least, digits);
    }

    public int truth(boolean is) {
        return store.keepTruth(is);
    }

    public int named(int kind, int number) {
        if (kind != BLANK && kind != NAME || number < 0 || number > HIGHEST_NUMBER) {
            return BAD;
        }
        return store.keepNumbered(kind, number);
    }

    public int text(int kind, int extra) {
        boolean right = isTextKind(kind, extra) && tape.isText();
        int answer = right ? store.keepRow(kind, extra, tape) : BAD;
        tape.clear();
        return answer;
    }

    public int told(int value, int what) {
        Value v = store.at(value);
        if (v.kind == NONE) {
            return BAD;
        }
        switch (what) {
            case 0:
                return v.kind;
            case 1:
                return v.extra;
            case 2:
                return v.scale;
            case 3:
                return v.bytes.length;
            default:
                return BAD;
        }
    }

    public long amount(int value) {
        return store.at(value).amount;
    }

    public int byteOf(int value, int i) {
        byte[] bytes = store.at(value).bytes;
        return i >= 0 && i < bytes.length ? bytes[i] : BAD;
    }

    public int values() {
        return store.count();
    }

    public int order(int a, int b) {
        Value first = store.at(a);
        Value second = store.at(b);
        if (first.kind == NONE || second.kind == NONE) {
            return 2;
        }
        return first.comparedTo(second);
    }

    public int word(int operation, int a) {
        return expression.append(operation, a);
    }

    public int begin() {
        return expression.restart();
    }

    public boolean bind(int variable, int value) {
        return expression.let(variable, value);
    }

    public int run() {
        return expression.evaluate();
    }

    public int test() {
        int answer = expression.evaluate();
        return answer > 0 ? store.at(answer).truthOf() : answer;
    }

    public int gather(int sort, boolean once, int between) {
        return gathering.restart(sort, once, between);
    }

    public int add(int value) {
        return gathering.take(value);
    }

    public int together() {
        return gathering.answer();
    }

    private static boolean isInSize(long n) {
        return n > -LIMIT && n < LIMIT;
    }

    private static boolean isTextKind(int kind, int extra) {
        if (kind == TEXT) {
            return extra == 0;
        }
        return (kind == TAGGED || kind == TYPED) && extra >= 0 && extra <= HIGHEST_TAG;
    }

    /** Never 0, so that it is safe as a divisor. */
    private static long power(int digits) {
        return digits >= 0 && digits < POWERS.length ? POWERS[digits] : 1;
    }

    private static final class Value {
        final int kind;
        /** A number, tag or type; a truth as 0 or 1. */
        final int extra;
        final long amount;
        final int scale;
        final byte[] bytes;
        /** The number of the next value of the same chain of the store, or 0. */
        final int next;

        Value(int kind, int extra, long amount, int scale, byte[] bytes, int next) {
            this.kind = kind;
            this.extra = extra;
            this.amount = amount;
            this.scale = scale;
            this.bytes = bytes;
            this.next = next;
        }

        boolean isNumber() {
            return kind == WHOLE || kind == DECIMAL;
        }

        boolean isPlainOrTagged() {
            return kind == TEXT || kind == TAGGED;
        }

        /** 1 or 0, or ERROR. */
        int truthOf() {
            if (kind == TRUTH) {
                return extra;
            }
            if (isNumber()) {
                return amount != 0 ? 1 : 0;
            }
            if (kind == TEXT) {
                return bytes.length > 0 ? 1 : 0;
            }
            return ERROR;
        }

        int comparedTo(Value other) {
            if (isNumber() && other.isNumber()) {
                int byAmount = comparedByAmount(other);
                return byAmount != 0 ? byAmount : Integer.compare(kind, other.kind);
            }
            if (kind != other.kind) {
                return Integer.compare(kind, other.kind);
            }
            int byBytes = comparedByBytes(other);
            return byBytes != 0 ? byBytes : Integer.compare(extra, other.extra);
        }

        /** Parts before and behind the dot are compared apart, since one scale for both could overflow. */
        int comparedByAmount(Value other) {
            int byHigh = Long.compare(Math.floorDiv(amount, power(scale)),
                    Math.floorDiv(other.amount, power(other.scale)));
            return byHigh != 0 ? byHigh : Long.compare(billionths(amount, scale),
                    billionths(other.amount, other.scale));
        }

        private int comparedByBytes(Value other) {
            for (int i = 0; i < bytes.length && i < other.bytes.length; i++) {
                if (bytes[i] != other.bytes[i]) {
                    return Integer.compare(bytes[i], other.bytes[i]);
                }
            }
            return Integer.compare(bytes.length, other.bytes.length);
        }
    }

    /** What a number has above the greatest whole number not above it. */
    private static long billionths(long amount, int scale) {
        return Math.floorMod(amount, power(scale)) * power(MOST_SCALE - scale);
    }

    /** A row of bytes that is used again and again, so that values on the way cost no room. */
    private static final class Row {
        final byte[] bytes = new byte[MOST_BYTES];
        int length;
        boolean isTooLong;

        void clear() {
            length = 0;
            isTooLong = false;
        }

        void put(int b) {
            if (length >= MOST_BYTES) {
                isTooLong = true;
                return;
            }
            bytes[length] = (byte) b;
            length++;
        }

        void putPart(byte[] from, int first, int end) {
            for (int i = Math.max(first, 0); i < end && i < from.length; i++) {
                put(from[i]);
            }
        }

        void putWord(String word) {
            for (int i = 0; i < word.length(); i++) {
                put(word.charAt(i));
            }
        }

        void putDigits(long n, int least) {
            boolean begun = false;
            for (int place = POWERS.length - 1; place >= 0; place--) {
                long digit = n / power(place) % 10;
                begun = begun || digit != 0 || place < least;
                if (begun) {
                    put((int) ('0' + digit));
                }
            }
        }

        /** Whether there is a STRING of it. */
        boolean putString(Value v) {
            if (v.amount < 0) {
                put('-');
            }
            long size = Math.abs(v.amount);
            switch (v.kind) {
                case NAME:
                    putDigits(v.extra, 1);
                    return true;
                case WHOLE:
                    putDigits(size, 1);
                    return true;
                case DECIMAL:
                    putDigits(size / power(v.scale), 1);
                    put('.');
                    putDigits(size % power(v.scale), Math.max(v.scale, 1));
                    return true;
                case TEXT:
                case TAGGED:
                case TYPED:
                    putPart(v.bytes, 0, v.bytes.length);
                    return true;
                case TRUTH:
                    putWord(v.extra == 1 ? "true" : "false");
                    return true;
                default:
                    return false;
            }
        }

        /** A byte above 127 is below 0 here. */
        boolean isText() {
            for (int i = 0; i < length && i < MOST_BYTES; i++) {
                if (bytes[i] <= 0) {
                    return false;
                }
            }
            return true;
        }

        boolean holds(byte[] other) {
            if (length != other.length) {
                return false;
            }
            for (int i = 0; i < length && i < other.length; i++) {
                if (bytes[i] != other[i]) {
                    return false;
                }
            }
            return true;
        }
    }

    /** The values, in chains by what they hold, so that looking one up does not go through all. */
    private static final class Store {
        /** A power of 2, so that a mask picks a chain. */
        private static final int CHAINS = 256;

        private final ArrayList<Value> kept = new ArrayList<Value>();
        private final int[] heads = new int[CHAINS];
        private final Value none = new Value(NONE, 0, 0, 0, NO_BYTES, 0);
        private final Row empty = new Row();

        int count() {
            return kept.size();
        }

        /** Of kind NONE when there is no such value. */
        Value at(int number) {
            return number >= 1 && number <= kept.size() ? kept.get(number - 1) : none;
        }

        int keepNumbered(int kind, int number) {
            return keep(kind, number, 0, 0, empty);
        }

        int keepNumber(int kind, long amount, int scale) {
            return keep(kind, 0, amount, scale, empty);
        }

        int keepTruth(boolean is) {
            return keep(TRUTH, is ? 1 : 0, 0, 0, empty);
        }

        int keepRow(int kind, int extra, Row row) {
            return row.isTooLong ? ERROR : keep(kind, extra, 0, 0, row);
        }

        int keepReckoned(Reckoner reckoner) {
            if (!reckoner.isGood) {
                return ERROR;
            }
            return keepNumber(reckoner.isWhole ? WHOLE : DECIMAL, reckoner.amount, reckoner.scale);
        }

        private int keep(int kind, int extra, long amount, int scale, Row row) {
            int chain = chainOf(kind, extra, amount, scale, row);
            int number = heads[chain];
            for (int steps = 0; number >= 1 && number <= kept.size() && steps < MOST_VALUES; steps++) {
                Value v = kept.get(number - 1);
                if (v.kind == kind && v.extra == extra && v.amount == amount && v.scale == scale
                        && row.holds(v.bytes)) {
                    return number;
                }
                number = v.next;
            }
            if (kept.size() >= MOST_VALUES) {
                return FULL;
            }
            byte[] bytes = row.length > 0 ? Arrays.copyOf(row.bytes, row.length) : NO_BYTES;
            kept.add(new Value(kind, extra, amount, scale, bytes, heads[chain]));
            heads[chain] = kept.size();
            return kept.size();
        }

        private static int chainOf(int kind, int extra, long amount, int scale, Row row) {
            long mix = ((kind * 31L + extra) * 31L + scale) * 31L + amount;
            for (int i = 0; i < row.length && i < MOST_BYTES; i++) {
                mix = mix * 31L + row.bytes[i];
            }
            return (int) (mix ^ mix >>> 21 ^ mix >>> 42) & CHAINS - 1;
        }
    }

    /** A number that others are reckoned onto; what was once not good stays so. */
    private static final class Reckoner {
        boolean isGood;
        boolean isWhole;
        long amount;
        int scale;

        void start(boolean whole, long amount, int scale) {
            isGood = true;
            isWhole = whole;
            this.amount = amount;
            this.scale = scale;
        }

        void plus(boolean whole, long other, int otherScale) {
            isWhole = isWhole && whole;
            long high = Math.floorDiv(amount, power(scale)) + Math.floorDiv(other, power(otherScale));
            long low = billionths(amount, scale) + billionths(other, otherScale);
            if (low >= BILLION) {
                low -= BILLION;
                high++;
            }
            if (high >= 0) {
                settle(false, high, low);
            } else if (low == 0) {
                settle(true, -high, 0);
            } else {
                settle(true, -(high + 1), BILLION - low);
            }
        }

        /** Both as rows of three places of a billion each, the lowest of them behind the dot. */
        void times(boolean whole, long other, int otherScale) {
            isWhole = isWhole && whole;
            long size = Math.abs(amount);
            long high = size / power(scale);
            long low = billionths(size, scale);
            long otherSize = Math.abs(other);
            long otherHigh = otherSize / power(otherScale);
            long otherLow = billionths(otherSize, otherScale);
            long middle = high % BILLION;
            long otherMiddle = otherHigh % BILLION;
            long top = high / BILLION;
            long otherTop = otherHigh / BILLION;

            long place = low * otherLow + BILLION / 2;
            place = place / BILLION + low * otherMiddle + middle * otherLow;
            long resultLow = place % BILLION;
            place = place / BILLION + low * otherTop + middle * otherMiddle + top * otherLow;
            long resultMiddle = place % BILLION;
            place = place / BILLION + middle * otherTop + top * otherMiddle;
            long resultTop = place % BILLION;
            isGood = isGood && place / BILLION + top * otherTop == 0;
            settle(amount < 0 != other < 0, resultTop * BILLION + resultMiddle, resultLow);
        }

        void over(long other, int otherScale) {
            isWhole = false;
            if (other == 0) {
                isGood = false;
                return;
            }
            long by = Math.abs(other);
            long rest = Math.abs(amount) % by;
            long quotient = Math.abs(amount) / by;
            long high = quotient / BILLION;
            long low = quotient % BILLION;
            int digits = MOST_SCALE + otherScale - scale;
            for (int i = 0; i < digits; i++) {
                if (high >= LIMIT / 10) {
                    isGood = false;
                    return;
                }
                int digit = 0;
                long tenfold = 0;
                // Ten times the rest could overflow, so it is added up and divided in steps.
                for (int k = 0; k < 10; k++) {
                    tenfold += rest;
                    if (tenfold >= by) {
                        tenfold -= by;
                        digit++;
                    }
                }
                rest = tenfold;
                low = low * 10 + digit;
                high = high * 10 + low / BILLION;
                low = low % BILLION;
            }
            boolean up = rest >= by - rest;
            settle(amount < 0 != other < 0, high, up ? low + 1 : low);
        }

        /**
         * The size is judged with the least scale, since that is what a value is told with.
         * Rounding may have made low a whole BILLION; without its zeros that is the 1 that high lacks.
         */
        private void settle(boolean below, long high, long low) {
            int digits = MOST_SCALE;
            long rest = low;
            while (digits > 0 && rest % 10 == 0) {
                rest /= 10;
                digits--;
            }
            if (high > (LIMIT - 1 - rest) / power(digits)) {
                isGood = false;
                return;
            }
            long size = high * power(digits) + rest;
            amount = below ? -size : size;
            scale = digits;
        }
    }

    private static final class Expression {
        private static final int VALUE = 0;
        private static final int VARIABLE = 1;
        private static final int IS_BOUND = 2;
        private static final int NOT = 3;
        private static final int AND = 4;
        private static final int OR = 5;
        private static final int EQUAL = 6;
        private static final int NOT_EQUAL = 7;
        private static final int LESS = 8;
        private static final int NOT_GREATER = 9;
        private static final int GREATER = 10;
        private static final int SAME = 12;
        private static final int SUM = 13;
        private static final int DIFFERENCE = 14;
        private static final int PRODUCT = 15;
        private static final int QUOTIENT = 16;
        private static final int TURNED = 17;
        private static final int UNSIGNED = 18;
        private static final int CEILING = 19;
        private static final int FLOOR = 20;
        private static final int NEAREST = 21;
        private static final int IF = 22;
        private static final int FIRST_GOOD = 23;
        private static final int IN = 24;
        private static final int BYTES = 25;
        private static final int PART = 26;
        private static final int CAPITALS = 27;
        private static final int CHAINED = 29;
        private static final int BEGINS = 30;
        private static final int ENDS = 31;
        private static final int WITHIN = 32;
        private static final int BEFORE = 33;
        private static final int BEHIND = 34;
        private static final int STRING = 35;
        private static final int TAG = 36;
        private static final int TYPE = 37;
        private static final int IS_NAME = 38;
        private static final int IS_BLANK = 39;
        private static final int IS_LITERAL = 40;
        private static final int LAST_OPERATION = 41;

        private static final int MOST_TAKEN = 20;
        private static final int FAR_FROM_SMALL = 'a' - 'A';
        private static final int[] TAKES = {
            0, 0, 0, 1, 2, 2, 2, 2, 2, 2, 2, 2, 2, 2, 2, 2, 2, 1, 1, 1, 1,
            1, 3, 0, 1, 1, 3, 1, 1, 0, 2, 2, 2, 2, 2, 1, 1, 1, 1, 1, 1, 1
        };
        private static final int[] TYPE_NAMES = {0, 0, 0, 1002, 1003, 1000, 1001, 0, 1004};

        private final Store store;
        private final int[] operations = new int[MOST_WORDS];
        private final int[] numbers = new int[MOST_WORDS];
        private final int[] bound = new int[VARIABLES];
        private final int[] stack = new int[MOST_WORDS];
        private final Row row = new Row();
        private final Reckoner reckoner = new Reckoner();
        private int length;
        private int top;

        Expression(Store store) {
            this.store = store;
        }

        int append(int operation, int a) {
            if (operation < 0 || operation > LAST_OPERATION) {
                return BAD;
            }
            int fewest = operation == FIRST_GOOD ? 1 : 0;
            if (takesMany(operation) && (a < fewest || a > MOST_TAKEN)) {
                return BAD;
            }
            if (length >= MOST_WORDS) {
                return FULL;
            }
            operations[length] = operation;
            numbers[length] = a;
            length++;
            return length;
        }

        int restart() {
            int had = length;
            length = 0;
            return had;
        }

        boolean let(int variable, int value) {
            if (variable < 0 || variable >= VARIABLES || value < 0 || value > store.count()) {
                return false;
            }
            bound[variable] = value;
            return true;
        }

        /** A value's number, or ERROR, BAD, FULL. */
        int evaluate() {
            // Looked at beforehand, so that what is not RIGHT makes no values.
            if (!isRight()) {
                return BAD;
            }
            top = 0;
            for (int i = 0; i < length && i < MOST_WORDS; i++) {
                int count = takenBy(operations[i], numbers[i]);
                top -= count;
                int result = bearsErrors(operations[i])
                        ? performWithErrors(operations[i], numbers[i])
                        : hasTakenError(count) ? ERROR : performOnValues(operations[i], numbers[i]);
                if (result == FULL) {
                    return FULL;
                }
                if (top >= 0 && top < MOST_WORDS) {
                    stack[top] = result;
                }
                top++;
            }
            return stack[0];
        }

        private boolean isRight() {
            int depth = 0;
            for (int i = 0; i < length && i < MOST_WORDS; i++) {
                depth -= takenBy(operations[i], numbers[i]);
                if (depth < 0) {
                    return false;
                }
                depth++;
            }
            return depth == 1;
        }

        private static int takenBy(int operation, int a) {
            if (operation < 0 || operation >= TAKES.length) {
                return 0;
            }
            return takesMany(operation) ? TAKES[operation] + a : TAKES[operation];
        }

        private static boolean takesMany(int operation) {
            return operation == FIRST_GOOD || operation == IN || operation == CHAINED;
        }

        private static boolean bearsErrors(int operation) {
            return operation <= IS_BOUND || operation == AND || operation == OR
                    || operation >= IF && operation <= IN;
        }

        /** What was taken lies above the top till the result is put there. */
        private int numberTaken(int i) {
            int place = top + i;
            return place >= 0 && place < MOST_WORDS ? stack[place] : ERROR;
        }

        private Value taken(int i) {
            return store.at(numberTaken(i));
        }

        private boolean hasTakenError(int count) {
            for (int i = 0; i < count; i++) {
                if (taken(i).kind == NONE) {
                    return true;
                }
            }
            return false;
        }

        private int performWithErrors(int operation, int a) {
            switch (operation) {
                case VALUE:
                    return store.at(a).kind != NONE ? a : ERROR;
                case VARIABLE:
                    return boundTo(a) > 0 ? boundTo(a) : ERROR;
                case IS_BOUND:
                    return store.keepTruth(boundTo(a) > 0);
                case AND:
                    return decidedBy(0);
                case OR:
                    return decidedBy(1);
                case IF:
                    return chosen();
                case FIRST_GOOD:
                    return firstGood(a);
                default:
                    return among(a);
            }
        }

        private int performOnValues(int operation, int a) {
            if (operation == NOT) {
                return judged(taken(0).truthOf(), 0);
            }
            if (operation == EQUAL || operation == NOT_EQUAL) {
                return judged(equal(numberTaken(0), numberTaken(1)), operation == EQUAL ? 1 : 0);
            }
            if (operation == SAME) {
                return store.keepTruth(numberTaken(0) == numberTaken(1));
            }
            if (operation < SAME) {
                return compared(operation);
            }
            if (operation <= QUOTIENT) {
                return reckoned(operation);
            }
            if (operation <= NEAREST) {
                return ofNumber(operation);
            }
            if (operation == CHAINED) {
                return chained(a);
            }
            if (operation < CHAINED) {
                return ofText(operation);
            }
            return operation <= BEHIND ? searched(operation) : ofAny(operation);
        }

        private int boundTo(int variable) {
            return variable >= 0 && variable < VARIABLES ? bound[variable] : 0;
        }

        /** Whether what was found (1, 0 or ERROR) is what is wanted, as a value. */
        private int judged(int found, int wanted) {
            return found == ERROR ? ERROR : store.keepTruth(found == wanted);
        }

        /** AND is decided by one that is false, OR by one that is true. */
        private int decidedBy(int deciding) {
            int first = taken(0).truthOf();
            int second = taken(1).truthOf();
            if (first == deciding || second == deciding) {
                return store.keepTruth(deciding == 1);
            }
            return first == ERROR || second == ERROR ? ERROR : store.keepTruth(deciding == 0);
        }

        private int chosen() {
            int is = taken(0).truthOf();
            if (is == ERROR) {
                return ERROR;
            }
            return numberTaken(is == 1 ? 1 : 2);
        }

        private int firstGood(int count) {
            for (int i = 0; i < count && i < MOST_TAKEN; i++) {
                if (taken(i).kind != NONE) {
                    return numberTaken(i);
                }
            }
            return ERROR;
        }

        private int among(int count) {
            if (taken(0).kind == NONE) {
                return ERROR;
            }
            boolean hadError = false;
            for (int i = 1; i <= count && i <= MOST_TAKEN; i++) {
                int is = equal(numberTaken(0), numberTaken(i));
                if (is == 1) {
                    return store.keepTruth(true);
                }
                hadError = hadError || is == ERROR;
            }
            return hadError ? ERROR : store.keepTruth(false);
        }

        /** 1, 0 or ERROR. */
        private int equal(int a, int b) {
            Value first = store.at(a);
            Value second = store.at(b);
            if (first.kind == NONE || second.kind == NONE) {
                return ERROR;
            }
            if (first.isNumber() && second.isNumber()) {
                return first.comparedByAmount(second) == 0 ? 1 : 0;
            }
            if (a == b) {
                return 1;
            }
            boolean isUnknown = first.kind == TYPED && second.kind >= WHOLE
                    || second.kind == TYPED && first.kind >= WHOLE;
            return isUnknown ? ERROR : 0;
        }

        private int compared(int operation) {
            Value first = taken(0);
            Value second = taken(1);
            int found;
            if (first.isNumber() && second.isNumber()) {
                found = first.comparedByAmount(second);
            } else if (first.kind == second.kind && (first.kind == TEXT || first.kind == TRUTH)) {
                found = first.comparedTo(second);
            } else {
                return ERROR;
            }
            switch (operation) {
                case LESS:
                    return store.keepTruth(found < 0);
                case NOT_GREATER:
                    return store.keepTruth(found <= 0);
                case GREATER:
                    return store.keepTruth(found > 0);
                default:
                    return store.keepTruth(found >= 0);
            }
        }

        private int reckoned(int operation) {
            Value first = taken(0);
            Value second = taken(1);
            if (!first.isNumber() || !second.isNumber()) {
                return ERROR;
            }
            boolean isWhole = second.kind == WHOLE;
            reckoner.start(first.kind == WHOLE, first.amount, first.scale);
            switch (operation) {
                case SUM:
                    reckoner.plus(isWhole, second.amount, second.scale);
                    break;
                case DIFFERENCE:
                    reckoner.plus(isWhole, -second.amount, second.scale);
                    break;
                case PRODUCT:
                    reckoner.times(isWhole, second.amount, second.scale);
                    break;
                default:
                    reckoner.over(second.amount, second.scale);
                    break;
            }
            return store.keepReckoned(reckoner);
        }

        private int ofNumber(int operation) {
            Value number = taken(0);
            if (!number.isNumber()) {
                return ERROR;
            }
            long unit = power(number.scale);
            long floor = Math.floorDiv(number.amount, unit);
            long rest = Math.floorMod(number.amount, unit);
            switch (operation) {
                case TURNED:
                    return store.keepNumber(number.kind, -number.amount, number.scale);
                case UNSIGNED:
                    return store.keepNumber(number.kind, Math.abs(number.amount), number.scale);
                case CEILING:
                    return store.keepNumber(number.kind, rest > 0 ? floor + 1 : floor, 0);
                case FLOOR:
                    return store.keepNumber(number.kind, floor, 0);
                default:
                    return store.keepNumber(number.kind, rest * 2 >= unit ? floor + 1 : floor, 0);
            }
        }

        private int chained(int count) {
            row.clear();
            int tag = taken(0).extra;
            boolean haveOneTag = count > 0;
            for (int i = 0; i < count && i < MOST_TAKEN; i++) {
                Value text = taken(i);
                if (!text.isPlainOrTagged()) {
                    return ERROR;
                }
                haveOneTag = haveOneTag && text.kind == TAGGED && text.extra == tag;
                row.putPart(text.bytes, 0, text.bytes.length);
            }
            return haveOneTag ? store.keepRow(TAGGED, tag, row) : store.keepRow(TEXT, 0, row);
        }

        private int ofText(int operation) {
            Value text = taken(0);
            if (!text.isPlainOrTagged()) {
                return ERROR;
            }
            row.clear();
            switch (operation) {
                case BYTES:
                    return store.keepNumber(WHOLE, text.bytes.length, 0);
                case PART:
                    return part(text, taken(1), taken(2));
                case CAPITALS:
                    return turned(text, 'a', 'z', -FAR_FROM_SMALL);
                default:
                    return turned(text, 'A', 'Z', FAR_FROM_SMALL);
            }
        }

        private int part(Value text, Value start, Value count) {
            if (start.kind != WHOLE || count.kind != WHOLE) {
                return ERROR;
            }
            long first = Math.max(start.amount, 1) - 1;
            long end = Math.min(start.amount + count.amount - 1, text.bytes.length);
            // The places may lie far beyond an int; only where first < end do they fit.
            if (first < end) {
                row.putPart(text.bytes, (int) first, (int) end);
            }
            return store.keepRow(text.kind, text.extra, row);
        }

        private int turned(Value text, int from, int to, int by) {
            for (int i = 0; i < text.bytes.length; i++) {
                int b = text.bytes[i];
                row.put(b >= from && b <= to ? b + by : b);
            }
            return store.keepRow(text.kind, text.extra, row);
        }

        private int searched(int operation) {
            Value text = taken(0);
            Value sought = taken(1);
            boolean isTaggedAlike = sought.kind == TAGGED && text.kind == TAGGED && sought.extra == text.extra;
            if (!text.isPlainOrTagged() || sought.kind != TEXT && !isTaggedAlike) {
                return ERROR;
            }
            int place = firstPlace(text.bytes, sought.bytes);
            int lastPlace = text.bytes.length - sought.bytes.length;
            switch (operation) {
                case BEGINS:
                    return store.keepTruth(place == 0);
                case ENDS:
                    return store.keepTruth(isAt(text.bytes, sought.bytes, lastPlace));
                case WITHIN:
                    return store.keepTruth(place >= 0);
                case BEFORE:
                    return cut(text, place, 0, place);
                default:
                    return cut(text, place, place + sought.bytes.length, text.bytes.length);
            }
        }

        private int cut(Value text, int place, int first, int end) {
            row.clear();
            if (place < 0) {
                return store.keepRow(TEXT, 0, row);
            }
            row.putPart(text.bytes, first, end);
            return store.keepRow(text.kind, text.extra, row);
        }

        /** -1 when it is nowhere. */
        private static int firstPlace(byte[] bytes, byte[] sought) {
            for (int place = 0; place <= bytes.length - sought.length; place++) {
                if (isAt(bytes, sought, place)) {
                    return place;
                }
            }
            return -1;
        }

        private static boolean isAt(byte[] bytes, byte[] sought, int place) {
            if (place < 0 || place > bytes.length - sought.length) {
                return false;
            }
            for (int i = 0; i < sought.length; i++) {
                if (bytes[place + i] != sought[i]) {
                    return false;
                }
            }
            return true;
        }

        private int ofAny(int operation) {
            Value v = taken(0);
            switch (operation) {
                case STRING:
                    row.clear();
                    return row.putString(v) ? store.keepRow(TEXT, 0, row) : ERROR;
                case TAG:
                    return tagText(v);
                case TYPE:
                    return typeName(v);
                case IS_NAME:
                    return store.keepTruth(v.kind == NAME);
                case IS_BLANK:
                    return store.keepTruth(v.kind == BLANK);
                case IS_LITERAL:
                    return store.keepTruth(v.kind >= WHOLE);
                default:
                    return store.keepTruth(v.isNumber());
            }
        }

        private int tagText(Value v) {
            if (v.kind < WHOLE) {
                return ERROR;
            }
            row.clear();
            if (v.kind == TAGGED) {
                row.putDigits(v.extra, 1);
            }
            return store.keepRow(TEXT, 0, row);
        }

        private int typeName(Value v) {
            if (v.kind < WHOLE || v.kind >= TYPE_NAMES.length) {
                return ERROR;
            }
            return store.keepNumbered(NAME, v.kind == TYPED ? v.extra : TYPE_NAMES[v.kind]);
        }
    }

    private static final class Gathering {
        private static final int COUNT = 0;
        private static final int SUM = 1;
        private static final int GREATEST = 3;
        private static final int AVERAGE = 4;
        private static final int JOINED = 6;

        private final Store store;
        private final int[] gathered = new int[MOST_GATHERED];
        private final int[] sorted = new int[MOST_GATHERED];
        private final Row row = new Row();
        private final Reckoner reckoner = new Reckoner();
        private int sort = COUNT;
        private boolean once;
        private int between;
        private int count;

        Gathering(Store store) {
            this.store = store;
        }

        int restart(int newSort, boolean newOnce, int newBetween) {
            if (newSort < COUNT || newSort > JOINED) {
                return BAD;
            }
            if (newSort == JOINED && store.at(newBetween).kind != TEXT) {
                return BAD;
            }
            sort = newSort;
            once = newOnce;
            between = newBetween;
            count = 0;
            return 0;
        }

        /** An ERROR is gathered as 0, the number of no value. */
        int take(int value) {
            if (value < 0 || value > store.count()) {
                return BAD;
            }
            if (once && isThere(value)) {
                return count;
            }
            if (count >= MOST_GATHERED) {
                return FULL;
            }
            gathered[count] = value;
            count++;
            return count;
        }

        private boolean isThere(int value) {
            for (int i = 0; i < count && i < MOST_GATHERED; i++) {
                if (gathered[i] == value) {
                    return true;
                }
            }
            return false;
        }

        int answer() {
            switch (sort) {
                case COUNT:
                    return store.keepNumber(WHOLE, countGood(), 0);
                case SUM:
                    reckonSum();
                    return store.keepReckoned(reckoner);
                case AVERAGE:
                    reckonSum();
                    if (count > 0) {
                        reckoner.over(count, 0);
                    }
                    return store.keepReckoned(reckoner);
                case GREATEST:
                    return outermost(1);
                case JOINED:
                    return joined();
                default:
                    return outermost(-1);
            }
        }

        private int countGood() {
            int good = 0;
            for (int i = 0; i < count && i < MOST_GATHERED; i++) {
                if (gathered[i] > 0) {
                    good++;
                }
            }
            return good;
        }

        private void reckonSum() {
            reckoner.start(true, 0, 0);
            for (int i = 0; i < count && i < MOST_GATHERED && reckoner.isGood; i++) {
                Value v = store.at(gathered[i]);
                if (v.isNumber()) {
                    reckoner.plus(v.kind == WHOLE, v.amount, v.scale);
                } else {
                    reckoner.isGood = false;
                }
            }
        }

        /** The least for direction -1, the greatest for 1. */
        private int outermost(int direction) {
            int best = ERROR;
            for (int i = 0; i < count && i < MOST_GATHERED; i++) {
                int number = gathered[i];
                if (number > 0
                        && (best == ERROR || store.at(number).comparedTo(store.at(best)) == direction)) {
                    best = number;
                }
            }
            return best;
        }

        private int joined() {
            // Unsorted first: how long it is does not depend on the order, and sorting is dear.
            if (!putAll(gathered)) {
                return ERROR;
            }
            sortGathered();
            return putAll(sorted) ? store.keepRow(TEXT, 0, row) : ERROR;
        }

        /** Whether each of them has a STRING and all have room. */
        private boolean putAll(int[] numbers) {
            byte[] gap = store.at(between).bytes;
            row.clear();
            for (int i = 0; i < count && i < numbers.length; i++) {
                if (i > 0) {
                    row.putPart(gap, 0, gap.length);
                }
                if (!row.putString(store.at(numbers[i])) || row.isTooLong) {
                    return false;
                }
            }
            return true;
        }

        private void sortGathered() {
            for (int i = 0; i < count && i < MOST_GATHERED; i++) {
                Value v = store.at(gathered[i]);
                int place = i;
                while (place > 0 && store.at(sorted[place - 1]).comparedTo(v) > 0) {
                    sorted[place] = sorted[place - 1];
                    place--;
                }
                sorted[place] = gathered[i];
            }
        }
    }
}
