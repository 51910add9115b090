import java.math.BigDecimal;

/**
 * An ExpressionDesk for tests. It counts its calls, since nothing is promised after the 512th, and it reads and
 * tells values as they are written here: ?5 a blank, :5 a name, 7 a whole, 7.0 a decimal, 'ab' a text,
 * 'ab'@3 with a tag, 'ab'^3 with a type, true, false; ERROR for what is no value.
 */
final class Desk {
    static final int MOST_CALLS = 512;

    private final ExpressionDesk x = new ExpressionDesk();
    private int calls;

    /** Full but for so much room; value 1 is the whole 1, value 2 the text of a comma; nothing is bound. */
    static Desk withRoom(int room) {
        Desk d = new Desk();
        d.whole(1);
        d.value("','");
        d.word(1, 0);
        for (int i = 0; i < 49; i++) {
            d.word(0, 1);
            d.word(13, 0);
        }
        int last = 0;
        for (int i = 1; i <= 39; i++) {
            d.bind(0, d.whole(1000L * i));
            last = d.run();
        }
        for (int i = 0; last < 2000 - room; i++) {
            last = d.named(1, i);
        }
        d.bind(0, 0);
        d.begin();
        return d;
    }

    private ExpressionDesk called() {
        calls++;
        if (calls > MOST_CALLS) {
            throw new IllegalStateException("a test makes more than 512 calls on one object");
        }
        return x;
    }

    int calls() {
        return calls;
    }

    int type(long bytes, int n) {
        return called().type(bytes, n);
    }

    int whole(long v) {
        return called().whole(v);
    }

    int decimal(long unscaled, int scale) {
        return called().decimal(unscaled, scale);
    }

    int truth(boolean is) {
        return called().truth(is);
    }

    int named(int kind, int number) {
        return called().named(kind, number);
    }

    int text(int kind, int extra) {
        return called().text(kind, extra);
    }

    int told(int value, int what) {
        return called().told(value, what);
    }

    long amount(int value) {
        return called().amount(value);
    }

    int byteOf(int value, int i) {
        return called().byteOf(value, i);
    }

    int values() {
        return called().values();
    }

    int order(int a, int b) {
        return called().order(a, b);
    }

    int word(int operation, int a) {
        return called().word(operation, a);
    }

    int begin() {
        return called().begin();
    }

    boolean bind(int variable, int value) {
        return called().bind(variable, value);
    }

    int run() {
        return called().run();
    }

    int test() {
        return called().test();
    }

    int gather(int sort, boolean once, int between) {
        return called().gather(sort, once, between);
    }

    int add(int value) {
        return called().add(value);
    }

    int together() {
        return called().together();
    }

    /** Eight bytes a call, to spare calls; the last answer of type, or 0. */
    int typeAll(String s) {
        int answer = 0;
        for (int from = 0; from < s.length(); from += 8) {
            int n = Math.min(8, s.length() - from);
            long bytes = 0;
            for (int i = from; i < from + n; i++) {
                bytes = bytes << 8 | s.charAt(i) & 0xff;
            }
            answer = type(bytes, n);
        }
        return answer;
    }

    int text(String s, int kind, int extra) {
        typeAll(s);
        return text(kind, extra);
    }

    /** The number of a written value, made if it is not there; 0 for ERROR. */
    int value(String written) {
        int number = made(written);
        if (number == ExpressionDesk.BAD) {
            throw new IllegalStateException(written + " is refused as BAD");
        }
        return number;
    }

    private int made(String written) {
        if (written.equals("ERROR")) {
            return 0;
        }
        if (written.equals("true") || written.equals("false")) {
            return truth(written.equals("true"));
        }
        char first = written.charAt(0);
        if (first == '?' || first == ':') {
            return named(first == '?' ? 1 : 2, Integer.parseInt(written.substring(1)));
        }
        if (first == '\'') {
            int end = written.lastIndexOf('\'');
            String bytes = written.substring(1, end);
            if (end == written.length() - 1) {
                return text(bytes, 5, 0);
            }
            int extra = Integer.parseInt(written.substring(end + 2));
            return text(bytes, written.charAt(end + 1) == '@' ? 6 : 7, extra);
        }
        if (written.indexOf('.') < 0) {
            return whole(Long.parseLong(written));
        }
        BigDecimal least = new BigDecimal(written).stripTrailingZeros();
        BigDecimal d = least.scale() < 0 ? least.setScale(0) : least;
        return decimal(d.unscaledValue().longValueExact(), d.scale());
    }

    /** The numbers of written values with blanks between; none for an empty text. */
    int[] allValues(String written) {
        String[] parts = written.isEmpty() ? new String[0] : written.split(" ");
        int[] numbers = new int[parts.length];
        for (int i = 0; i < parts.length; i++) {
            numbers[i] = value(parts[i]);
        }
        return numbers;
    }

    /** What an answer stands for, as it is written here. */
    String show(int answer) {
        switch (answer) {
            case -1:
                return "BAD";
            case -2:
                return "NO";
            case -3:
                return "FULL";
            case -4:
                return "ERROR";
            default:
                return showValue(answer);
        }
    }

    private String showValue(int number) {
        switch (told(number, 0)) {
            case 1:
                return "?" + told(number, 1);
            case 2:
                return ":" + told(number, 1);
            case 3:
                return "" + amount(number);
            case 4:
                int scale = told(number, 2);
                String digits = BigDecimal.valueOf(amount(number), scale).toPlainString();
                return scale == 0 ? digits + ".0" : digits;
            case 5:
                return showBytes(number);
            case 6:
                return showBytes(number) + "@" + told(number, 1);
            case 7:
                return showBytes(number) + "^" + told(number, 1);
            case 8:
                return told(number, 1) == 1 ? "true" : "false";
            default:
                return "the number " + number + " of no value";
        }
    }

    private String showBytes(int number) {
        StringBuilder s = new StringBuilder("'");
        int n = told(number, 3);
        for (int i = 0; i < n; i++) {
            s.append((char) byteOf(number, i));
        }
        return s.append('\'').toString();
    }

    /** The expression anew: values as they are written here, and operations as #15 or, with a number, #23/4. */
    void express(String written) {
        String[] parts = written.isEmpty() ? new String[0] : written.split(" ");
        int[][] words = new int[parts.length][];
        for (int i = 0; i < parts.length; i++) {
            words[i] = wordOf(parts[i]);
        }
        begin();
        for (int[] word : words) {
            word(word[0], word[1]);
        }
    }

    private int[] wordOf(String part) {
        if (part.charAt(0) != '#') {
            return new int[] {0, value(part)};
        }
        int slash = part.indexOf('/');
        return slash < 0
                ? new int[] {Integer.parseInt(part.substring(1)), 0}
                : new int[] {Integer.parseInt(part.substring(1, slash)), Integer.parseInt(part.substring(slash + 1))};
    }

    /** The written values gathered anew, each by its own add. */
    void gatherAll(int sort, boolean once, int between, String written) {
        int[] numbers = allValues(written);
        gather(sort, once, between);
        for (int number : numbers) {
            add(number);
        }
    }
}
