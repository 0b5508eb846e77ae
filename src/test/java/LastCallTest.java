/** "An object is used for at most 512 calls after it has been made": all 512 of them must hold. */
public final class LastCallTest extends Check {
    private static final int CALLS = 512;
    private static final int OP = 4096;

    /** How many calls the object of the test has had. */
    private int calls;

    public static void main(String[] args) {
        LastCallTest t = new LastCallTest();
        t.sentence("An object is used for at most 512 calls after it has been made");
        t.addsAndClears();
        t.storesAndRemoves();
        t.itemsAndNewLines();
        t.links();
        t.startsAndFeeds();
        t.runs();
        t.refusals();
        t.end();
    }

    private void begin() {
        calls = 0;
    }

    private void call(String name, boolean got, boolean want) {
        calls++;
        due("call " + calls + ": " + name, got, want);
    }

    private void call(String name, int got, int want) {
        calls++;
        due("call " + calls + ": " + name, got, want);
    }

    private boolean leaves(int count) {
        return CALLS - calls >= count;
    }

    private void addsAndClears() {
        begin();
        SpanLinker x = new SpanLinker();
        while (leaves(25)) {
            call("add", x.add(3, LABEL, 1, 0), true);
            for (int k = 1; k < 20; k++) {
                call("add", x.add(3, JUMP, 1, 0), true);
            }
            call("the 21st", x.add(3, JUMP, 1, 0), false);
            call("length", x.length(3, TEXT), 30);
            call("isLong", x.isLong(3, 8), false);
            call("isLong", x.isLong(3, 9), true);
            call("clear", x.clear(3), 20);
        }
        while (leaves(1)) {
            call("clear", x.clear(3), 0);
        }
    }

    private void storesAndRemoves() {
        begin();
        SpanLinker x = new SpanLinker();
        while (leaves(20)) {
            for (int module = 0; module < 6; module++) {
                call("store", x.store(module, module - 1), true);
            }
            call("member(0)", x.member(0), 5);
            call("member(5)", x.member(5), 0);
            for (int module = 0; module < 6; module++) {
                call("store again", x.store(module, -1), true);
            }
            for (int module = 0; module < 6; module++) {
                call("remove", x.remove(module), true);
            }
        }
        while (leaves(1)) {
            call("member(0)", x.member(0), -1);
        }
    }

    private void itemsAndNewLines() {
        begin();
        SpanLinker x = new SpanLinker();
        while (leaves(10)) {
            for (int item = 0; item < 8; item++) {
                call("item", x.item(Math.min(item, 6)), true);
            }
            call("the ninth", x.item(6), false);
            x.newLine();
            calls++;
        }
        while (leaves(1)) {
            call("remove(0)", x.remove(0), false);
        }
    }

    private void links() {
        begin();
        SpanLinker x = new SpanLinker();
        call("add", x.add(0, COMMON, 1, 16), true);
        call("add", x.add(0, NUMBER, 5, 0), true);
        call("item", x.item(0), true);
        while (leaves(4)) {
            call("link", x.link(-1), 0);
            call("size(2)", x.size(BSS), 16);
            call("strip", x.strip(), true);
            call("link", x.link(2), SpanLinker.UNDEFINED);
        }
        while (leaves(1)) {
            call("missing", x.missing(), 4);
        }
    }

    private void startsAndFeeds() {
        begin();
        SpanLinker x = new SpanLinker();
        call("add", x.add(0, NUMBER, 11 * OP, 0), true);
        call("add", x.add(0, NUMBER, 9 * OP + 254, 0), true);
        call("item", x.item(0), true);
        call("link", x.link(-1), 0);
        int word = 0;
        while (leaves(12)) {
            call("start", x.start(), true);
            for (int k = 0; k < 8; k++) {
                word++;
                call("feed", x.feed(word), true);
            }
            call("the ninth", x.feed(0), false);
            call("run", x.run(15), 15);
            call("the eighth word", x.register(0), word);
        }
        while (leaves(1)) {
            call("register(0)", x.register(0), word);
        }
    }

    /** The most steps that an object can be asked for, each of which but one in twenty puts a word out. */
    private void runs() {
        begin();
        SpanLinker x = new SpanLinker();
        for (int k = 0; k < 19; k++) {
            call("add", x.add(0, NUMBER, 10 * OP, 0), true);
        }
        call("add", x.add(0, NUMBER, 9 * OP + 256 - 20, 0), true);
        call("item", x.item(0), true);
        call("link", x.link(-1), 0);
        call("start", x.start(), true);
        int put = 0;
        while (leaves(2)) {
            call("run", x.run(1000), 1000);
            put += 950;
        }
        call("how many words were put out", x.register(4), put);
        due("all calls were made", calls, CALLS);
    }

    private void refusals() {
        begin();
        SpanLinker x = new SpanLinker();
        call("add", x.add(0, NUMBER, 8, 0), true);
        call("item", x.item(0), true);
        call("link", x.link(-1), 0);
        call("start", x.start(), true);
        while (leaves(8)) {
            call("add", x.add(6, NUMBER, 8, 0), false);
            call("store", x.store(0, -1), false);
            call("item", x.item(0), false);
            call("link", x.link(16), -1);
            call("feed", x.feed(65536), false);
            call("run", x.run(1001), -1);
        }
        call("length", x.length(0, TEXT), 1);
        while (leaves(1)) {
            call("memory", x.memory(0), 8);
        }
    }
}
