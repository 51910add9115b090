import java.math.BigDecimal;
import java.math.BigInteger;
import java.math.RoundingMode;
import java.util.ArrayList;
import java.util.Collections;
import java.util.Comparator;
import java.util.List;
import java.util.Objects;
import java.util.Random;

/** Seeded runs of calls, each answer compared with that of a plain second model of the document. */
public final class ModelTests {
    private static final int BAD = -1;
    private static final int FULL = -3;
    private static final int ERROR = -4;
    private static final int MOST_CALLS = 512;
    private static final BigInteger LIMIT = BigInteger.TEN.pow(18);

    /** number for kinds 3 and 4; text for 5 .. 7; extra for the number, tag, type or truth. */
    private record V(int kind, int extra, BigDecimal number, String text) {
        boolean counts() {
            return kind == 3 || kind == 4;
        }

        boolean reads() {
            return kind == 5 || kind == 6;
        }
    }

    private static V wholeValue(BigInteger n) {
        return n.abs().compareTo(LIMIT) >= 0 ? null : new V(3, 0, new BigDecimal(n), "");
    }

    private static V decimalValue(BigDecimal exact) {
        BigDecimal n = exact.scale() > 9 ? exact.setScale(9, RoundingMode.HALF_UP) : exact;
        n = n.signum() == 0 ? BigDecimal.ZERO : n.stripTrailingZeros();
        if (n.scale() < 0) {
            n = n.setScale(0);
        }
        return n.unscaledValue().abs().compareTo(LIMIT) >= 0 ? null : new V(4, 0, n, "");
    }

    private static V truthIs(boolean is) {
        return new V(8, is ? 1 : 0, null, "");
    }

    private static V plain(String s) {
        return s.length() > 64 ? null : new V(5, 0, null, s);
    }

    private static V like(V first, String s) {
        return new V(first.kind, first.extra, null, s);
    }

    private static final Comparator<V> ORDER = (a, b) -> {
        int ka = a.kind == 4 ? 3 : a.kind;
        int kb = b.kind == 4 ? 3 : b.kind;
        if (ka != kb) {
            return Integer.compare(ka, kb);
        }
        if (ka == 3) {
            int c = a.number.compareTo(b.number);
            return c != 0 ? c : Integer.compare(a.kind, b.kind);
        }
        int c = a.text.compareTo(b.text);
        return c != 0 ? Integer.signum(c) : Integer.compare(a.extra, b.extra);
    };

    private static Boolean truthOf(V v) {
        if (v == null) {
            return null;
        }
        return switch (v.kind) {
            case 8 -> v.extra == 1;
            case 3, 4 -> v.number.signum() != 0;
            case 5 -> !v.text.isEmpty();
            default -> null;
        };
    }

    private static Boolean equal(V a, V b) {
        if (a == null || b == null) {
            return null;
        }
        if (a.counts() && b.counts()) {
            return a.number.compareTo(b.number) == 0;
        }
        if (a.equals(b)) {
            return true;
        }
        if (a.kind == 7 && b.kind >= 3 || b.kind == 7 && a.kind >= 3) {
            return null;
        }
        return false;
    }

    private static Boolean less(V a, V b) {
        if (a.counts() && b.counts()) {
            return a.number.compareTo(b.number) < 0;
        }
        if (a.kind == b.kind && (a.kind == 5 || a.kind == 8)) {
            return ORDER.compare(a, b) < 0;
        }
        return null;
    }

    private static Boolean not(Boolean b) {
        return b == null ? null : !b;
    }

    private static V truthValue(Boolean b) {
        return b == null ? null : truthIs(b);
    }

    private static String string(V v) {
        switch (v.kind) {
            case 1:
                return null;
            case 2:
                return "" + v.extra;
            case 3:
                return v.number.toBigInteger().toString();
            case 4:
                return v.number.scale() == 0 ? v.number.toPlainString() + ".0" : v.number.toPlainString();
            case 8:
                return v.extra == 1 ? "true" : "false";
            default:
                return v.text;
        }
    }

    private static V reckon(int op, V a, V b) {
        if (!a.counts() || !b.counts()) {
            return null;
        }
        BigDecimal x = a.number;
        BigDecimal y = b.number;
        if (op == 16) {
            return y.signum() == 0 ? null : decimalValue(x.divide(y, 9, RoundingMode.HALF_UP));
        }
        BigDecimal r = op == 13 ? x.add(y) : op == 14 ? x.subtract(y) : x.multiply(y);
        return a.kind == 3 && b.kind == 3 ? wholeValue(r.toBigIntegerExact()) : decimalValue(r);
    }

    private static final class Model {
        final List<V> values = new ArrayList<>();
        final List<int[]> words = new ArrayList<>();
        final int[] bound = new int[10];
        String tape = "";
        int sort;
        boolean once;
        int between;
        List<Integer> gathered = new ArrayList<>();

        int keep(V v) {
            int i = values.indexOf(v);
            if (i >= 0) {
                return i + 1;
            }
            if (values.size() == 2000) {
                return FULL;
            }
            values.add(v);
            return values.size();
        }

        V at(int n) {
            return n >= 1 && n <= values.size() ? values.get(n - 1) : null;
        }

        int type(long bytes, int n) {
            if (n < 1 || n > 8) {
                return BAD;
            }
            if (tape.length() + n > 64) {
                return FULL;
            }
            for (int i = n - 1; i >= 0; i--) {
                tape += (char) (bytes >> 8 * i & 255);
            }
            return tape.length();
        }

        int whole(long v) {
            V w = wholeValue(BigInteger.valueOf(v));
            return w == null ? BAD : keep(w);
        }

        int decimal(long unscaled, int scale) {
            if (scale < 0 || scale > 9 || BigInteger.valueOf(unscaled).abs().compareTo(LIMIT) >= 0) {
                return BAD;
            }
            return keep(decimalValue(BigDecimal.valueOf(unscaled, scale)));
        }

        int named(int kind, int number) {
            return kind < 1 || kind > 2 || number < 0 || number > 9999 ? BAD : keep(new V(kind, number, null, ""));
        }

        int text(int kind, int extra) {
            String s = tape;
            tape = "";
            boolean right = kind == 5 && extra == 0 || (kind == 6 || kind == 7) && extra >= 0 && extra <= 99;
            if (!right || s.chars().anyMatch(c -> c == 0 || c > 127)) {
                return BAD;
            }
            return keep(new V(kind, extra, null, s));
        }

        int told(int value, int what) {
            V v = at(value);
            if (v == null || what < 0 || what > 3) {
                return BAD;
            }
            return new int[] {v.kind, v.extra, v.kind == 4 ? v.number.scale() : 0, v.text.length()}[what];
        }

        long amount(int value) {
            V v = at(value);
            return v == null || !v.counts() ? 0 : v.number.unscaledValue().longValueExact();
        }

        int byteOf(int value, int i) {
            V v = at(value);
            return v == null || i < 0 || i >= v.text.length() ? BAD : v.text.charAt(i);
        }

        int order(int a, int b) {
            return at(a) == null || at(b) == null ? 2 : ORDER.compare(at(a), at(b));
        }

        int word(int operation, int a) {
            if (operation < 0 || operation > 41) {
                return BAD;
            }
            if (operation == 23 && (a < 1 || a > 20) || (operation == 24 || operation == 29) && (a < 0 || a > 20)) {
                return BAD;
            }
            if (words.size() == 100) {
                return FULL;
            }
            words.add(new int[] {operation, a});
            return words.size();
        }

        int begin() {
            int had = words.size();
            words.clear();
            return had;
        }

        boolean bind(int variable, int value) {
            if (variable < 0 || variable > 9 || value != 0 && at(value) == null) {
                return false;
            }
            bound[variable] = value;
            return true;
        }

        static int takes(int[] word) {
            int op = word[0];
            if (op == 23 || op == 29) {
                return word[1];
            }
            if (op == 24) {
                return word[1] + 1;
            }
            if (op <= 2) {
                return 0;
            }
            if (op == 22 || op == 26) {
                return 3;
            }
            return op >= 4 && op <= 16 || op >= 30 && op <= 34 ? 2 : 1;
        }

        int run() {
            int depth = 0;
            for (int[] word : words) {
                if (depth < takes(word)) {
                    return BAD;
                }
                depth += 1 - takes(word);
            }
            if (depth != 1) {
                return BAD;
            }
            List<V> stack = new ArrayList<>();
            for (int[] word : words) {
                List<V> tail = stack.subList(stack.size() - takes(word), stack.size());
                V result = perform(word[0], word[1], new ArrayList<>(tail));
                tail.clear();
                if (result != null && keep(result) == FULL) {
                    return FULL;
                }
                stack.add(result);
            }
            return stack.get(0) == null ? ERROR : keep(stack.get(0));
        }

        int test() {
            int n = run();
            if (n < 0) {
                return n;
            }
            Boolean b = truthOf(at(n));
            return b == null ? ERROR : b ? 1 : 0;
        }

        V perform(int op, int a, List<V> t) {
            switch (op) {
                case 0:
                    return at(a);
                case 1:
                    return a < 0 || a > 9 ? null : at(bound[a]);
                case 2:
                    return truthIs(a >= 0 && a <= 9 && bound[a] != 0);
                case 4:
                    return three(truthOf(t.get(0)), truthOf(t.get(1)), false);
                case 5:
                    return three(truthOf(t.get(0)), truthOf(t.get(1)), true);
                case 22:
                    Boolean b = truthOf(t.get(0));
                    return b == null ? null : b ? t.get(1) : t.get(2);
                case 23:
                    return t.stream().filter(Objects::nonNull).findFirst().orElse(null);
                case 24:
                    return in(t);
                default:
                    return t.contains(null) ? null : strict(op, t);
            }
        }

        V three(Boolean a, Boolean b, boolean strong) {
            if (a != null && a == strong || b != null && b == strong) {
                return truthIs(strong);
            }
            return a == null || b == null ? null : truthIs(!strong);
        }

        V in(List<V> t) {
            if (t.get(0) == null) {
                return null;
            }
            List<Boolean> found = new ArrayList<>();
            for (V v : t.subList(1, t.size())) {
                found.add(equal(t.get(0), v));
            }
            return found.contains(true) ? truthIs(true) : found.contains(null) ? null : truthIs(false);
        }

        V strict(int op, List<V> t) {
            V x = t.isEmpty() ? null : t.get(0);
            V y = t.size() > 1 ? t.get(1) : null;
            if (op >= 13 && op <= 16) {
                return reckon(op, x, y);
            }
            if (op >= 17 && op <= 21) {
                return x.counts() ? ofNumber(op, x) : null;
            }
            if (op >= 25 && op <= 34) {
                return t.stream().allMatch(V::reads) || op == 26 && x.reads() ? ofText(op, x, y, t) : null;
            }
            switch (op) {
                case 3:
                    return truthValue(not(truthOf(x)));
                case 6:
                    return truthValue(equal(x, y));
                case 7:
                    return truthValue(not(equal(x, y)));
                case 8:
                    return truthValue(less(x, y));
                case 9:
                    return truthValue(not(less(y, x)));
                case 10:
                    return truthValue(less(y, x));
                case 11:
                    return truthValue(not(less(x, y)));
                case 12:
                    return truthIs(x.equals(y));
                case 35:
                    return string(x) == null ? null : plain(string(x));
                case 36:
                    return x.kind < 3 ? null : plain(x.kind == 6 ? "" + x.extra : "");
                case 37:
                    int[] names = {0, 0, 0, 1002, 1003, 1000, 1001, x.extra, 1004};
                    return x.kind < 3 ? null : new V(2, names[x.kind], null, "");
                case 38:
                    return truthIs(x.kind == 2);
                case 39:
                    return truthIs(x.kind == 1);
                case 40:
                    return truthIs(x.kind > 2);
                default:
                    return truthIs(x.counts());
            }
        }

        V ofNumber(int op, V x) {
            BigDecimal half = new BigDecimal("0.5");
            BigDecimal n = switch (op) {
                case 17 -> x.number.negate();
                case 18 -> x.number.abs();
                case 19 -> x.number.setScale(0, RoundingMode.CEILING);
                case 20 -> x.number.setScale(0, RoundingMode.FLOOR);
                default -> x.number.add(half).setScale(0, RoundingMode.FLOOR);
            };
            return x.kind == 3 ? wholeValue(n.toBigIntegerExact()) : decimalValue(n);
        }

        V ofText(int op, V x, V y, List<V> t) {
            if (op >= 30 && y.kind != 5 && !(x.kind == 6 && y.extra == x.extra)) {
                return null;
            }
            int place = op >= 30 ? x.text.indexOf(y.text) : 0;
            switch (op) {
                case 25:
                    return wholeValue(BigInteger.valueOf(x.text.length()));
                case 26:
                    return part(x, y, t.get(2));
                case 27:
                    return like(x, x.text.toUpperCase(java.util.Locale.ROOT));
                case 28:
                    return like(x, x.text.toLowerCase(java.util.Locale.ROOT));
                case 29:
                    return chained(t);
                case 30:
                    return truthIs(x.text.startsWith(y.text));
                case 31:
                    return truthIs(x.text.endsWith(y.text));
                case 32:
                    return truthIs(x.text.contains(y.text));
                case 33:
                    return place < 0 ? plain("") : like(x, x.text.substring(0, place));
                default:
                    return place < 0 ? plain("") : like(x, x.text.substring(place + y.text.length()));
            }
        }

        V part(V x, V s, V n) {
            if (s.kind != 3 || n.kind != 3) {
                return null;
            }
            StringBuilder part = new StringBuilder();
            for (int p = 1; p <= x.text.length(); p++) {
                BigDecimal place = BigDecimal.valueOf(p);
                if (s.number.compareTo(place) <= 0 && place.compareTo(s.number.add(n.number)) < 0) {
                    part.append(x.text.charAt(p - 1));
                }
            }
            return like(x, part.toString());
        }

        V chained(List<V> t) {
            StringBuilder all = new StringBuilder();
            boolean tagged = !t.isEmpty();
            for (V v : t) {
                all.append(v.text);
                tagged &= v.kind == 6 && v.extra == t.get(0).extra;
            }
            if (all.length() > 64) {
                return null;
            }
            return tagged ? like(t.get(0), all.toString()) : plain(all.toString());
        }

        int gather(int newSort, boolean newOnce, int newBetween) {
            if (newSort < 0 || newSort > 6) {
                return BAD;
            }
            if (newSort == 6 && (at(newBetween) == null || at(newBetween).kind != 5)) {
                return BAD;
            }
            sort = newSort;
            once = newOnce;
            between = newBetween;
            gathered = new ArrayList<>();
            return 0;
        }

        int add(int value) {
            if (value != 0 && at(value) == null) {
                return BAD;
            }
            if (!(once && gathered.contains(value))) {
                if (gathered.size() == 500) {
                    return FULL;
                }
                gathered.add(value);
            }
            return gathered.size();
        }

        int together() {
            List<V> all = new ArrayList<>();
            for (int n : gathered) {
                all.add(at(n));
            }
            List<V> good = new ArrayList<>(all);
            good.removeIf(Objects::isNull);
            Collections.sort(good, ORDER);
            V result = switch (sort) {
                case 0 -> wholeValue(BigInteger.valueOf(good.size()));
                case 1 -> sum(all);
                case 2, 5 -> good.isEmpty() ? null : good.get(0);
                case 3 -> good.isEmpty() ? null : good.get(good.size() - 1);
                case 4 -> average(all);
                default -> good.size() < all.size() ? null : joined(good);
            };
            return result == null ? ERROR : keep(result);
        }

        V sum(List<V> all) {
            V sum = wholeValue(BigInteger.ZERO);
            for (V v : all) {
                sum = v == null || sum == null ? null : reckon(13, sum, v);
            }
            return sum;
        }

        V average(List<V> all) {
            V sum = sum(all);
            if (sum == null || all.isEmpty()) {
                return sum;
            }
            return reckon(16, sum, wholeValue(BigInteger.valueOf(all.size())));
        }

        V joined(List<V> sorted) {
            List<String> strings = new ArrayList<>();
            for (V v : sorted) {
                strings.add(string(v));
            }
            return strings.contains(null) ? null : plain(String.join(at(between).text, strings));
        }
    }

    /** The two side by side: each call goes to both. */
    private static final class Pair {
        final ExpressionDesk desk = new ExpressionDesk();
        final Model model = new Model();
        final Random random;
        final String name;
        final StringBuilder calls = new StringBuilder();
        int made;
        int wrong;

        Pair(String name, long seed) {
            this.name = name;
            this.random = new Random(seed);
        }

        void due(String call, long got, long want) {
            made++;
            calls.append(call).append(" = ").append(want).append("; ");
            if (got != want) {
                wrong++;
                if (wrong == 1) {
                    System.out.println(name + ": " + calls + "answered " + got);
                }
            }
        }

        void type(long bytes, int n) {
            due("type(" + bytes + ", " + n + ")", desk.type(bytes, n), model.type(bytes, n));
        }

        void whole(long v) {
            due("whole(" + v + ")", desk.whole(v), model.whole(v));
        }

        void decimal(long u, int s) {
            due("decimal(" + u + ", " + s + ")", desk.decimal(u, s), model.decimal(u, s));
        }

        void truth(boolean is) {
            due("truth(" + is + ")", desk.truth(is), model.keep(truthIs(is)));
        }

        void named(int kind, int number) {
            due("named(" + kind + ", " + number + ")", desk.named(kind, number), model.named(kind, number));
        }

        void text(int kind, int extra) {
            due("text(" + kind + ", " + extra + ")", desk.text(kind, extra), model.text(kind, extra));
        }

        void told(int v, int what) {
            due("told(" + v + ", " + what + ")", desk.told(v, what), model.told(v, what));
        }

        void amount(int v) {
            due("amount(" + v + ")", desk.amount(v), model.amount(v));
        }

        void byteOf(int v, int i) {
            due("byteOf(" + v + ", " + i + ")", desk.byteOf(v, i), model.byteOf(v, i));
        }

        void values() {
            due("values()", desk.values(), model.values.size());
        }

        void order(int a, int b) {
            due("order(" + a + ", " + b + ")", desk.order(a, b), model.order(a, b));
        }

        void word(int op, int a) {
            due("word(" + op + ", " + a + ")", desk.word(op, a), model.word(op, a));
        }

        void begin() {
            due("begin()", desk.begin(), model.begin());
        }

        void bind(int variable, int value) {
            due("bind(" + variable + ", " + value + ")", desk.bind(variable, value) ? 1 : 0,
                    model.bind(variable, value) ? 1 : 0);
        }

        void run() {
            due("run()", desk.run(), model.run());
        }

        void test() {
            due("test()", desk.test(), model.test());
        }

        void gather(int sort, boolean once, int between) {
            due("gather(" + sort + ", " + once + ", " + between + ")", desk.gather(sort, once, between),
                    model.gather(sort, once, between));
        }

        void add(int v) {
            due("add(" + v + ")", desk.add(v), model.add(v));
        }

        void together() {
            due("together()", desk.together(), model.together());
        }

        int below(int n) {
            return random.nextInt(n);
        }

        long anyLong() {
            long[] edges = {0, 1, -1, 999999999999999999L, -999999999999999999L, 1000000000000000000L,
                -1000000000000000000L, Long.MAX_VALUE, Long.MIN_VALUE, 500000000L, 1500000000L, 999999999L};
            switch (below(4)) {
                case 0:
                    return edges[below(edges.length)];
                case 1:
                    return below(41) - 20;
                case 2:
                    return random.nextLong() >> below(64);
                default:
                    return (random.nextLong() >> 4) / (long) Math.pow(10, below(18));
            }
        }

        int anyInt(int low, int high) {
            int[] edges = {Integer.MIN_VALUE, Integer.MAX_VALUE, -1, low - 1, high + 1, low, high};
            return below(12) == 0 ? edges[below(edges.length)] : low + below(high - low + 1);
        }

        int anyValue() {
            int last = model.values.size();
            return last == 0 ? below(2) : anyInt(1, last);
        }

        void makeText(int letters) {
            int length = below(6) == 0 ? below(65) : below(5);
            for (int i = 0; i < length; i++) {
                type(below(300) == 0 ? below(256) : "abABzZ".charAt(below(letters)), 1);
            }
            int kind = 5 + below(3);
            text(kind, kind == 5 ? 0 : below(3));
        }

        void makeValue() {
            switch (below(8)) {
                case 0:
                    truth(random.nextBoolean());
                    break;
                case 1:
                    named(anyInt(1, 2), anyInt(0, 9999));
                    break;
                case 2:
                    named(1 + below(2), below(4));
                    break;
                case 3:
                    whole(anyLong());
                    break;
                case 4:
                    decimal(anyLong(), anyInt(0, 9));
                    break;
                case 5:
                    whole(below(7) - 2);
                    break;
                default:
                    makeText(2 + below(5));
                    break;
            }
        }

        /** Words that are mostly RIGHT: operands first, then what takes them all. */
        void makeExpression() {
            begin();
            int depth = 0;
            int length = 1 + below(12);
            for (int i = 0; i < length; i++) {
                int op = below(3) == 0 ? below(3) == 0 ? 1 + below(2) : 0 : below(42);
                int a = operand(op, depth);
                int takes = Model.takes(new int[] {op, a});
                while (depth < takes && below(60) != 0) {
                    word(0, anyValue());
                    depth++;
                }
                word(op, a);
                depth = Math.max(0, depth + 1 - takes);
            }
            if (below(12) != 0 && depth > 1) {
                int[] gatherers = {23, 24, 29};
                int op = gatherers[below(3)];
                word(op, op == 24 ? depth - 1 : depth);
            }
        }

        int operand(int op, int depth) {
            if (op == 0) {
                return anyValue();
            }
            if (op == 1 || op == 2) {
                return anyInt(0, 9);
            }
            if (op == 23) {
                return Math.max(1, Math.min(20, 1 + below(depth + 1)));
            }
            return op == 24 || op == 29 ? Math.min(20, below(depth + 2)) : below(3) - 1;
        }

        /** The newest first, as far as an object's calls go. */
        void tellAll() {
            for (int v = model.values.size(); v > 0 && made + 5 <= MOST_CALLS; v--) {
                for (int what = 0; what < 4; what++) {
                    told(v, what);
                }
                amount(v);
            }
        }
    }

    private static int mixedRun(long seed) {
        Pair pair = new Pair("mixed run " + seed, seed);
        while (pair.made < 380) {
            switch (pair.below(12)) {
                case 0, 1, 2:
                    pair.makeValue();
                    break;
                case 3, 4, 5, 6:
                    pair.makeExpression();
                    pair.bind(pair.anyInt(0, 9), pair.below(4) == 0 ? 0 : pair.anyValue());
                    pair.run();
                    pair.test();
                    break;
                case 7:
                    pair.gather(pair.anyInt(0, 6), pair.random.nextBoolean(), pair.anyValue());
                    break;
                case 8:
                    for (int i = pair.below(6); i >= 0; i--) {
                        pair.add(pair.below(20) == 0 ? 0 : pair.anyValue());
                    }
                    pair.together();
                    break;
                case 9:
                    pair.order(pair.anyValue(), pair.anyValue());
                    break;
                case 10:
                    pair.byteOf(pair.anyValue(), pair.anyInt(0, 5));
                    pair.told(pair.anyValue(), pair.anyInt(0, 3));
                    break;
                default:
                    pair.type(pair.random.nextLong() & 0x7f7f7f7f7f7f7f7fL, pair.anyInt(1, 8));
                    pair.values();
                    break;
            }
        }
        pair.tellAll();
        return pair.wrong;
    }

    /** One operation on every pair of a mixed lot of values. */
    private static int operationRun(int op, long seed) {
        Pair pair = new Pair("operation " + op + " run " + seed, seed);
        boolean onNumbers = op >= 13 && op <= 21;
        while (pair.model.values.size() < 30) {
            if (onNumbers && pair.below(8) != 0) {
                if (pair.random.nextBoolean()) {
                    pair.whole(pair.anyLong());
                } else {
                    pair.decimal(pair.anyLong(), pair.below(10));
                }
            } else if (op >= 25 && op <= 34 && pair.random.nextBoolean()) {
                pair.makeText(2);
            } else {
                pair.makeValue();
            }
        }
        int a = op == 23 || op == 24 || op == 29 ? 1 + pair.below(3) : 0;
        int takes = Model.takes(new int[] {op, a});
        while (pair.made < 400) {
            pair.begin();
            for (int i = 0; i < takes; i++) {
                int number = 1 + pair.below(30);
                if (op == 26 && i > 0 && pair.below(10) != 0) {
                    long place = pair.below(9) - 2;
                    pair.whole(place);
                    number = pair.model.whole(place);
                }
                pair.word(0, pair.below(20) == 0 ? 0 : number);
            }
            pair.word(op, a);
            pair.run();
            pair.test();
        }
        pair.tellAll();
        return pair.wrong;
    }

    /** Long chains of sums, so that there is no room for values any more. */
    private static int fullRun(long seed) {
        Pair pair = new Pair("full run " + seed, seed);
        pair.whole(1);
        for (int i = 0; i < 49; i++) {
            pair.word(i == 0 ? 1 : 0, i == 0 ? 0 : 1);
            if (i > 0) {
                pair.word(13, 0);
            }
        }
        for (int i = 0; i < 60; i++) {
            pair.whole(1000L * i + 2);
            pair.bind(0, pair.model.values.size());
            pair.run();
            pair.values();
        }
        pair.whole(5);
        pair.whole(2);
        pair.truth(true);
        pair.test();
        pair.gather(0, false, 0);
        pair.together();
        pair.add(1);
        pair.together();
        pair.begin();
        pair.word(0, 1);
        pair.word(0, 1);
        pair.word(6, 0);
        pair.run();
        pair.tellAll();
        return pair.wrong;
    }

    /** Numbers near the edges of size and of rounding. */
    private static int sumRun(long seed) {
        Pair pair = new Pair("sum run " + seed, seed);
        while (pair.made < 400) {
            pair.gather(1 + 3 * pair.below(2), pair.below(4) == 0, 0);
            for (int i = pair.below(8); i > 0; i--) {
                if (pair.random.nextBoolean()) {
                    pair.whole(pair.anyLong());
                } else {
                    pair.decimal(pair.anyLong(), pair.below(10));
                }
                pair.add(pair.model.values.size());
            }
            pair.together();
        }
        pair.tellAll();
        return pair.wrong;
    }

    private static int joinRun(long seed) {
        Pair pair = new Pair("join run " + seed, seed);
        pair.text(5, 0);
        while (pair.made < 300) {
            pair.makeText(3);
            pair.makeValue();
            pair.gather(6, pair.random.nextBoolean(), 1 + pair.below(pair.model.values.size()));
            for (int i = pair.below(7); i > 0; i--) {
                pair.add(1 + pair.below(pair.model.values.size()));
            }
            pair.together();
        }
        pair.tellAll();
        return pair.wrong;
    }

    public static void main(String[] args) {
        int rounds = args.length > 0 ? Integer.parseInt(args[0]) : 1;
        int wrong = 0;
        for (int seed = 0; seed < 1500 * rounds; seed++) {
            wrong += mixedRun(seed);
            wrong += seed < 400 * rounds ? sumRun(seed) + joinRun(seed) : 0;
        }
        for (int op = 0; op <= 41; op++) {
            for (int seed = 0; seed < 25 * rounds; seed++) {
                wrong += operationRun(op, 1000L * op + seed);
            }
        }
        wrong += fullRun(1);
        System.out.println(wrong == 0 ? "both models agree" : wrong + " answers differ");
        if (wrong != 0) {
            System.exit(1);
        }
    }
}
