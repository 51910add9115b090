/**
 * What each call changes, and that it changes nothing else. Of two objects with the same calls one gets a call
 * more; then both are asked the same. Asking changes an object itself, so each part is asked of a new pair.
 */
public final class ChangeTests {
    private static final String VALUES = "values";
    private static final String TAPE = "tape";
    private static final String WORDS = "words";
    private static final String BOUND = "bound";
    private static final String GATHERED = "gathered";
    private static final String[] PARTS = {VALUES, TAPE, WORDS, BOUND, GATHERED};

    private interface State {
        Desk make();
    }

    /** Something of everything, with room for more. */
    private static Desk busy() {
        Desk d = new Desk();
        d.allValues("7 0.5 'abc' ',' true :5 ?5 'b'@1 'c'^2");
        d.bind(0, 1);
        d.bind(3, 2);
        d.word(1, 0);
        d.word(1, 3);
        d.word(13, 0);
        d.gather(6, false, 4);
        d.add(1);
        d.add(3);
        d.typeAll("xy");
        return d;
    }

    /** No room for a value, a byte or a word; run and together would make a value that is not there. */
    private static Desk full() {
        Desk d = Desk.withRoom(0);
        d.bind(3, 1);
        d.word(1, 3);
        for (int i = 1; i < 100; i++) {
            d.word(17, 0);
        }
        d.gather(6, true, 2);
        d.add(1);
        d.add(2);
        d.typeAll("x".repeat(64));
        return d;
    }

    /** As many gathered as can be. */
    private static Desk crowded() {
        Desk d = new Desk();
        d.whole(1);
        for (int i = 0; i < 500; i++) {
            d.add(1);
        }
        return d;
    }

    /** The call is written with its answer. */
    private static void dueChange(String name, State state, String written, String... changed) {
        for (String part : PARTS) {
            Desk before = state.make();
            Desk after = state.make();
            String call = written.substring(0, written.indexOf(" = "));
            Due.is(name + ": " + call, new Calls(after).make(call), written.substring(call.length() + 3));
            boolean isChanged = !told(part, before).equals(told(part, after));
            Due.is(name + ": " + call + " changes its " + part, isChanged, has(changed, part));
        }
    }

    private static boolean has(String[] parts, String sought) {
        for (String part : parts) {
            if (part.equals(sought)) {
                return true;
            }
        }
        return false;
    }

    private static String told(String part, Desk d) {
        switch (part) {
            case VALUES:
                return toldValues(d);
            case TAPE:
                return toldTape(d);
            case WORDS:
                return toldWords(d);
            case BOUND:
                return toldBound(d);
            default:
                return toldGathered(d);
        }
    }

    /** The last ones are enough where there are many: numbers are given in their order and never again. */
    private static String toldValues(Desk d) {
        StringBuilder s = new StringBuilder();
        int count = d.values();
        for (int i = Math.max(1, count - 9); i <= count && d.calls() < 490; i++) {
            s.append(d.show(i)).append(' ');
        }
        return s.append(d.values()).toString();
    }

    /** A plain text can't be made of it where there is no room, so its length has to tell. */
    private static String toldTape(Desk d) {
        int length = d.type('t', 1);
        return length + " " + d.show(d.text(5, 0)) + " " + d.type('t', 1);
    }

    /** Bound alike first, since what the words give depends on it. */
    private static String toldWords(Desk d) {
        d.bind(0, 1);
        d.bind(3, 1);
        return d.show(d.run()) + " " + d.word(17, 0) + " " + d.show(d.run()) + " " + d.begin();
    }

    private static String toldBound(Desk d) {
        StringBuilder s = new StringBuilder();
        for (int variable = 0; variable < 10 && d.calls() < 470; variable++) {
            d.begin();
            d.word(1, variable);
            s.append(d.show(d.run())).append(' ');
        }
        return s.toString();
    }

    /** Two more first, which a full object has too: their counts show whether each comes only once. */
    private static String toldGathered(Desk d) {
        int one = d.whole(1);
        int thousand = d.whole(1000);
        return d.add(one) + " " + d.add(thousand) + " " + d.add(one) + " " + d.show(d.together());
    }

    private static void each(String name, State state, String[] calls, String... changed) {
        for (String call : calls) {
            dueChange(name, state, call, changed);
        }
    }

    private static void onABusyObject() {
        each("busy", ChangeTests::busy, new String[] {
            "told(1, 0) = 3", "told(1, 4) = -1", "told(0, 0) = -1", "told(10, 0) = -1", "amount(2) = 5",
            "amount(10) = 0", "byteOf(3, 0) = 97", "byteOf(3, 3) = -1", "byteOf(1, 0) = -1", "values() = 9",
            "order(1, 2) = 1", "order(0, 1) = 2",
        });
        each("busy, refused", ChangeTests::busy, new String[] {
            "type('a', 0) = -1", "type('a', 9) = -1", "whole(1000000000000000000L) = -1",
            "whole(-1000000000000000000L) = -1", "decimal(1, -1) = -1", "decimal(1, 10) = -1",
            "decimal(1000000000000000000L, 1) = -1", "named(0, 1) = -1", "named(3, 1) = -1", "named(1, -1) = -1",
            "named(2, 10000) = -1", "word(-1, 0) = -1", "word(42, 0) = -1", "word(23, 0) = -1", "word(23, 21) = -1",
            "word(24, -1) = -1", "word(24, 21) = -1", "word(29, -1) = -1", "word(29, 21) = -1",
            "bind(-1, 1) = false", "bind(10, 1) = false", "bind(0, -1) = false", "bind(3, 10) = false",
            "gather(-1, true, 4) = -1", "gather(7, true, 4) = -1", "gather(6, true, 0) = -1",
            "gather(6, true, 1) = -1", "gather(6, true, 8) = -1", "gather(6, true, 10) = -1", "add(-1) = -1",
            "add(10) = -1",
        });
        each("busy, there already", ChangeTests::busy, new String[] {
            "whole(7) = 1", "decimal(5, 1) = 2", "decimal(50, 2) = 2", "truth(true) = 5", "named(2, 5) = 6",
            "named(1, 5) = 7", "bind(0, 1) = true", "bind(5, 0) = true",
        });
        each("busy", ChangeTests::busy, new String[] {
            "whole(5) = 10", "decimal(7, 0) = 10", "truth(false) = 10", "named(1, 6) = 10", "named(2, 6) = 10",
            "run() = 10", "test() = 1", "together() = 10",
        }, VALUES);
        each("busy", ChangeTests::busy, new String[] {
            "type('a', 1) = 3", "type(0, 1) = 3", "text(5, 1) = -1", "text(6, 100) = -1", "text(7, -1) = -1",
            "text(4, 0) = -1", "text(8, 0) = -1",
        }, TAPE);
        each("busy", ChangeTests::busy, new String[] {
            "text(5, 0) = 10", "text(6, 1) = 10", "text(7, 1) = 10",
        }, VALUES, TAPE);
        each("busy", ChangeTests::busy, new String[] {"begin() = 3", "word(17, 0) = 4", "word(0, 1) = 4"}, WORDS);
        each("busy", ChangeTests::busy, new String[] {
            "bind(0, 2) = true", "bind(3, 0) = true", "bind(9, 9) = true",
        }, BOUND);
        each("busy", ChangeTests::busy, new String[] {
            "add(2) = 3", "add(1) = 3", "add(0) = 3", "gather(0, false, 0) = 0", "gather(6, false, 4) = 0",
            "gather(6, false, 3) = 0",
        }, GATHERED);
    }

    private static void onANewObject() {
        each("new", Desk::new, new String[] {
            "type('a', 0) = -1", "begin() = 0", "run() = -1", "test() = -1", "gather(0, false, 0) = 0",
            "gather(7, false, 0) = -1", "gather(6, false, 0) = -1", "add(1) = -1", "bind(0, 0) = true",
            "bind(0, 1) = false", "text(4, 0) = -1", "order(1, 1) = 2", "told(1, 0) = -1",
        });
        each("new", Desk::new, new String[] {"together() = 1", "text(5, 0) = 1", "named(1, 0) = 1"}, VALUES);
    }

    private static void onAFullObject() {
        each("full", ChangeTests::full, new String[] {
            "type('x', 1) = -3", "type('x', 8) = -3", "whole(-7) = -3", "decimal(7, 1) = -3", "truth(true) = -3",
            "truth(false) = -3", "named(1, 9999) = -3", "named(2, 9999) = -3", "word(0, 1) = -3",
            "word(42, 0) = -1", "run() = -3", "test() = -3", "together() = -3", "add(1) = 2", "add(2) = 2",
        });
        each("full", ChangeTests::full, new String[] {
            "text(5, 0) = -3", "text(6, 0) = -3", "text(7, 0) = -3", "text(8, 0) = -1",
        }, TAPE);
        each("full", ChangeTests::full, new String[] {"begin() = 100"}, WORDS);
        each("full", ChangeTests::full, new String[] {"add(0) = 3", "gather(6, false, 2) = 0"}, GATHERED);
    }

    private static void onACrowdedObject() {
        each("crowded", ChangeTests::crowded, new String[] {
            "add(1) = -3", "add(0) = -3", "add(2) = -1", "gather(7, false, 0) = -1",
        });
    }

    public static void main(String[] args) {
        onABusyObject();
        onANewObject();
        onAFullObject();
        onACrowdedObject();
        Due.end("ChangeTests");
    }
}
