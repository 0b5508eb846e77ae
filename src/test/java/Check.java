/**
 * Counts the answers of one test that are not as due, and has the short ways to write a program. A
 * test of edges extends it, and names each sentence of the document before it tests that sentence.
 */
class Check {
    static final int LABEL = 0;
    static final int GLOBAL = 1;
    static final int SECTION = 2;
    static final int NUMBER = 3;
    static final int ADDRESS = 4;
    static final int SPACE = 5;
    static final int JUMP = 6;
    static final int COMMON = 7;
    static final int VALUE = 8;

    static final int TEXT = 0;
    static final int DATA = 1;
    static final int BSS = 2;
    static final int ARCHIVE = 6;

    static final int RUNNING = 0;
    static final int HALTED = 1;
    static final int ILLEGAL = 2;
    static final int OUTSIDE = 3;

    private int wrong;
    private String sentence = "";

    /** What follows tests these words of the document. */
    void sentence(String words) {
        sentence = "\"" + words + "\": ";
    }

    void due(String call, int got, int want) {
        if (got != want) {
            tell(call + " answered " + got + ", due is " + want);
        }
    }

    void due(String call, boolean got, boolean want) {
        if (got != want) {
            tell(call + " answered " + got + ", due is " + want);
        }
    }

    void tell(String fault) {
        wrong++;
        System.out.println(sentence + fault);
    }

    /** Numbers that are not least .. most: those beside it, those a word further off, the farthest. */
    static int[] beside(int least, int most) {
        return new int[] {least - 1, most + 1, least - 65536, most + 65536,
            Integer.MIN_VALUE, Integer.MAX_VALUE};
    }

    /** Adds rows of (kind, a, b), each of which must be taken. */
    void write(SpanLinker x, int module, int[]... statements) {
        for (int[] s : statements) {
            due("add(" + module + ", " + s[0] + ", " + s[1] + ", " + s[2] + ")",
                x.add(module, s[0], s[1], s[2]), true);
        }
    }

    static int[] s(int kind, int a, int b) {
        return new int[] {kind, a, b};
    }

    static int[] s(int kind, int a) {
        return new int[] {kind, a, 0};
    }

    /** Links the one module 0 with these words of text and starts the machine. */
    SpanLinker machineOf(int... text) {
        SpanLinker x = new SpanLinker();
        for (int w : text) {
            due("add(0, NUMBER, " + w + ")", x.add(0, NUMBER, w, 0), true);
        }
        linkAndStart(x, -1, 0);
        return x;
    }

    /** Puts each onto the line, where it must be taken. */
    void items(SpanLinker x, int... items) {
        for (int item : items) {
            due("item(" + item + ")", x.item(item), true);
        }
    }

    /** Puts each at the archive's end, where it must be taken. */
    void stores(SpanLinker x, int... modules) {
        for (int module : modules) {
            due("store(" + module + ", -1)", x.store(module, -1), true);
        }
    }

    /** These modules stand in the archive and no others. */
    void members(String when, SpanLinker x, int... due) {
        for (int k = 0; k < due.length; k++) {
            due(when + ": member(" + k + ")", x.member(k), due[k]);
        }
        for (int k : beside(0, due.length - 1)) {
            due(when + ": member(" + k + ")", x.member(k), -1);
        }
    }

    /** The latest link included these modules and no others. */
    void included(String when, SpanLinker x, int... due) {
        for (int k = 0; k < due.length; k++) {
            due(when + ": included(" + k + ")", x.included(k), due[k]);
        }
        for (int k : beside(0, due.length - 1)) {
            due(when + ": included(" + k + ")", x.included(k), -1);
        }
    }

    /** The image has these words and no others. */
    void words(String when, SpanLinker x, int... due) {
        for (int address = 0; address < due.length; address++) {
            due(when + ": word(" + address + ")", x.word(address), due[address]);
        }
        for (int address : beside(0, due.length - 1)) {
            due(when + ": word(" + address + ")", x.word(address), -1);
        }
    }

    void sizes(String when, SpanLinker x, int text, int data, int bss) {
        due(when + ": size(0)", x.size(TEXT), text);
        due(when + ": size(1)", x.size(DATA), data);
        due(when + ": size(2)", x.size(BSS), bss);
    }

    void noImage(String when, SpanLinker x) {
        sizes(when, x, -1, -1, -1);
        due(when + ": word(0)", x.word(0), -1);
        due(when + ": symbol(0)", x.symbol(0), -1);
        due(when + ": strip()", x.strip(), false);
        due(when + ": start()", x.start(), false);
    }

    void noMachine(String when, SpanLinker x) {
        due(when + ": feed(0)", x.feed(0), false);
        due(when + ": run(0)", x.run(0), -1);
        for (int k = 0; k <= 8; k++) {
            due(when + ": register(" + k + ")", x.register(k), -1);
        }
        due(when + ": memory(0)", x.memory(0), -1);
    }

    /** The module exports the name, which stands for its place from here on. */
    void export(SpanLinker x, int module, int name) {
        write(x, module, s(LABEL, name), s(GLOBAL, name));
    }

    /** Adds SPACE statements of so many words in all. */
    void space(SpanLinker x, int module, int words) {
        for (int left = words; left > 0; left -= 16) {
            write(x, module, s(SPACE, Math.min(left, 16)));
        }
    }

    void linkAndStart(SpanLinker x, int want, int... modules) {
        for (int module : modules) {
            due("item(" + module + ")", x.item(module), true);
        }
        due("link(" + want + ")", x.link(want), 0);
        due("start()", x.start(), true);
    }

    /** A, R, PC and the state. */
    void registers(String when, SpanLinker x, int a, int r, int pc, int state) {
        due(when + ": A", x.register(0), a);
        due(when + ": R", x.register(1), r);
        due(when + ": PC", x.register(2), pc);
        due(when + ": state", x.register(3), state);
    }

    void end() {
        if (wrong != 0) {
            System.out.println(wrong + " answers are not as due");
            System.exit(1);
        }
        System.out.println("all answers are as due");
    }
}
