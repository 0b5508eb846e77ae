/** Counts the answers of one test that are not as due, and the short ways to write a program. */
final class Check {
    static final int LABEL = 0;
    static final int GLOBAL = 1;
    static final int SECTION = 2;
    static final int NUMBER = 3;
    static final int ADDRESS = 4;
    static final int SPACE = 5;
    static final int JUMP = 6;
    static final int COMMON = 7;
    static final int VALUE = 8;

    static final int TEXT = 0;
    static final int DATA = 1;
    static final int BSS = 2;
    static final int ARCHIVE = 6;

    private int wrong;

    void due(String call, int got, int want) {
        if (got != want) {
            wrong++;
            System.out.println(call + " answered " + got + ", due is " + want);
        }
    }

    void due(String call, boolean got, boolean want) {
        if (got != want) {
            wrong++;
            System.out.println(call + " answered " + got + ", due is " + want);
        }
    }

    /** Adds rows of (kind, a, b), each of which must be taken. */
    void write(SpanLinker x, int module, int[]... statements) {
        for (int[] s : statements) {
            due("add(" + module + ", " + s[0] + ", " + s[1] + ", " + s[2] + ")",
                x.add(module, s[0], s[1], s[2]), true);
        }
    }

    static int[] s(int kind, int a, int b) {
        return new int[] {kind, a, b};
    }

    static int[] s(int kind, int a) {
        return new int[] {kind, a, 0};
    }

    /** Links the one module 0 with these words of text and starts the machine. */
    SpanLinker machineOf(int... text) {
        SpanLinker x = new SpanLinker();
        for (int w : text) {
            due("add(0, NUMBER, " + w + ")", x.add(0, NUMBER, w, 0), true);
        }
        linkAndStart(x, -1, 0);
        return x;
    }

    void linkAndStart(SpanLinker x, int want, int... modules) {
        for (int module : modules) {
            due("item(" + module + ")", x.item(module), true);
        }
        due("link(" + want + ")", x.link(want), 0);
        due("start()", x.start(), true);
    }

    /** A, R, PC and the state. */
    void registers(String when, SpanLinker x, int a, int r, int pc, int state) {
        due(when + ": A", x.register(0), a);
        due(when + ": R", x.register(1), r);
        due(when + ": PC", x.register(2), pc);
        due(when + ": state", x.register(3), state);
    }

    void end() {
        if (wrong != 0) {
            System.out.println(wrong + " answers are not as due");
            System.exit(1);
        }
        System.out.println("all answers are as due");
    }
}
