/** The steps of the machine, one operation after the other (promises 20, 21 and 22). */
public final class OperationsTest {
    private static final int OP = 4096;

    public static void main(String[] args) {
        Check c = new Check();
        loadsAndStores(c);
        sums(c);
        callAndReturn(c);
        conditions(c);
        shortDistances(c);
        indirectLoad(c);
        shifts(c);
        missingSecondWord(c);
        addressesOutside(c);
        textIsNotWritten(c);
        programsWithFreeAddresses(c);
        c.end();
    }

    /** Text, then the data words 1000, 40000 and 65535 and one word of bss. */
    private static SpanLinker withData(Check c, int... text) {
        SpanLinker x = new SpanLinker();
        for (int w : text) {
            c.write(x, 0, Check.s(Check.NUMBER, w));
        }
        c.write(x, 0, Check.s(Check.SECTION, Check.DATA), Check.s(Check.NUMBER, 1000),
            Check.s(Check.NUMBER, 40000), Check.s(Check.NUMBER, 65535),
            Check.s(Check.SECTION, Check.BSS), Check.s(Check.SPACE, 1));
        c.linkAndStart(x, -1, 0);
        return x;
    }

    private static void loadsAndStores(Check c) {
        SpanLinker x = withData(c, OP, 65535, 2 * OP + 4095, 7, 3 * OP, 9, 0);
        c.due("A = m", x.run(1), 1);
        c.registers("A = m", x, 65535, 0, 2, Check.RUNNING);
        c.due("A = M", x.run(1), 1);
        c.registers("A = M", x, 1000, 0, 4, Check.RUNNING);
        c.due("M = A", x.run(1), 1);
        c.registers("M = A", x, 1000, 0, 6, Check.RUNNING);
        c.due("data", x.memory(9), 1000);
        c.due("data beside", x.memory(8), 40000);
        SpanLinker bss = withData(c, OP, 5, 3 * OP, 7, 2 * OP, 0);
        c.due("run", bss.run(3), 3);
        c.registers("text can be read", bss, OP, 0, 6, Check.RUNNING);
        SpanLinker last = withData(c, OP, 5, 3 * OP, 7);
        c.due("run", last.run(2), 2);
        c.due("bss can be written", last.memory(7), 5);
    }

    private static void sums(Check c) {
        SpanLinker x = withData(c, OP, 30000, 4 * OP, 7, 5 * OP, 6);
        c.due("run", x.run(2), 2);
        c.registers("30000 + 40000", x, 30000 + 40000 - 65536, 0, 4, Check.RUNNING);
        c.due("run", x.run(1), 1);
        c.registers("- 1000", x, 30000 + 40000 - 65536 - 1000, 0, 6, Check.RUNNING);
        SpanLinker y = withData(c, 5 * OP, 4, 4 * OP, 6);
        c.due("run", y.run(1), 1);
        c.registers("0 - 1000", y, 64536, 0, 2, Check.RUNNING);
        c.due("run", y.run(1), 1);
        c.registers("+ 65535", y, 64535, 0, 4, Check.RUNNING);
    }

    private static void callAndReturn(Check c) {
        SpanLinker x = c.machineOf(6 * OP + 4095, 3, 0, 6 * OP, 6, 0, 7 * OP + 4095);
        c.due("call", x.run(1), 1);
        c.registers("call", x, 0, 2, 3, Check.RUNNING);
        c.due("call", x.run(1), 1);
        c.registers("call over the first", x, 0, 5, 6, Check.RUNNING);
        c.due("return", x.run(1), 1);
        c.registers("return", x, 0, 5, 5, Check.RUNNING);
        SpanLinker far = c.machineOf(6 * OP, 65535);
        c.due("m may be any word", far.run(5), 1);
        c.registers("far", far, 0, 2, 65535, Check.OUTSIDE);
        SpanLinker zero = c.machineOf(7 * OP);
        c.due("R is 0 at first", zero.run(7), 7);
        c.registers("zero", zero, 0, 0, 0, Check.RUNNING);
    }

    private static boolean holds(int condition, int a) {
        return condition == 0 || condition == 1 && a == 0 || condition == 2 && a >= 32768
            || condition == 3 && a != 0;
    }

    private static void conditions(Check c) {
        int[] values = {0, 1, 32767, 32768, 65535};
        for (int a : values) {
            for (int n = 0; n < 4096; n += 256) {
                boolean jumps = holds(n / 256 % 4, a);
                longJump(c, n, a, jumps);
                longJump(c, n + 255, a, jumps);
                shortJump(c, n + 1, a, jumps ? 4 : 3);
                shortJump(c, n + 100, a, jumps ? 103 : 3);
                shortJump(c, n + 255, a, jumps ? 2 : 3);
            }
        }
    }

    private static void longJump(Check c, int n, int a, boolean jumps) {
        SpanLinker x = c.machineOf(OP, a, 8 * OP + n, 50000);
        c.due("long jump", x.run(2), 2);
        c.registers("long, n " + n, x, a, 0, jumps ? 50000 : 4, Check.RUNNING);
    }

    private static void shortJump(Check c, int n, int a, int pc) {
        SpanLinker x = c.machineOf(OP, a, 9 * OP + n);
        c.due("short jump", x.run(2), 2);
        c.registers("short, n " + n, x, a, 0, pc, Check.RUNNING);
    }

    private static void shortDistances(Check c) {
        int[] lows = {0, 1, 127, 128, 255};
        int[] pcs = {1, 2, 128, 65536 + 1 - 128, 0};
        for (int k = 0; k < lows.length; k++) {
            SpanLinker x = c.machineOf(9 * OP + lows[k]);
            c.due("jump", x.run(1), 1);
            c.registers("d from " + lows[k], x, 0, 0, pcs[k], Check.RUNNING);
        }
    }

    private static void indirectLoad(Check c) {
        SpanLinker x = withData(c, OP, 6, 12 * OP + 4095);
        c.due("run", x.run(2), 2);
        c.registers("the last word of the image", x, 0, 0, 3, Check.RUNNING);
        x = withData(c, OP, 7, 12 * OP);
        c.due("run", x.run(2), 1);
        c.registers("the first word behind the image", x, 7, 0, 2, Check.OUTSIDE);
        x = withData(c, OP, 0, 12 * OP);
        c.due("run", x.run(2), 2);
        c.registers("text", x, OP, 0, 3, Check.RUNNING);
        x = withData(c, OP, 4, 12 * OP, 12 * OP);
        c.due("run", x.run(9), 2);
        c.registers("1000 is outside", x, 1000, 0, 3, Check.OUTSIDE);
    }

    private static void shifts(Check c) {
        for (int n = 0; n < 4096; n += 37) {
            SpanLinker x = c.machineOf(OP, 54321, 13 * OP + n, 0);
            c.due("run", x.run(2), 2);
            c.registers("shift " + n, x, 54321 >>> (n % 16), 0, 3, Check.RUNNING);
        }
    }

    private static void missingSecondWord(Check c) {
        int[] two = {1, 2, 3, 4, 5, 6, 8};
        for (int operation : two) {
            SpanLinker x = c.machineOf(13 * OP, operation * OP + 256 * 3);
            c.due("operation " + operation, x.run(9), 1);
            c.registers("operation " + operation, x, 0, 0, 1, Check.OUTSIDE);
        }
        int[] one = {9, 10, 11, 13};
        for (int operation : one) {
            SpanLinker x = c.machineOf(operation * OP);
            c.due("operation " + operation, x.run(1), 1);
            c.registers("operation " + operation, x, 0, 0, 1, Check.RUNNING);
        }
    }

    private static void addressesOutside(Check c) {
        int[] touching = {2, 3, 4, 5};
        for (int operation : touching) {
            SpanLinker inside = withData(c, OP, 3, operation * OP, 7);
            c.due("the last word of the image", inside.run(2), 2);
            int[] far = {8, 200, 65535};
            for (int m : far) {
                SpanLinker x = withData(c, OP, 3, operation * OP, m);
                c.due("operation " + operation + " at " + m, x.run(9), 1);
                c.registers("operation " + operation + " at " + m, x, 3, 0, 2, Check.OUTSIDE);
                c.due("nothing changed", x.memory(7), 0);
            }
        }
        int[] free = {1, 6, 8};
        for (int operation : free) {
            SpanLinker x = c.machineOf(operation * OP, 60000);
            c.due("any word " + operation, x.run(1), 1);
            c.due("state", x.register(3), Check.RUNNING);
        }
    }

    private static void textIsNotWritten(Check c) {
        for (int m = 0; m < 4; m++) {
            SpanLinker x = withData(c, OP, 3, 3 * OP, m);
            c.due("run", x.run(9), 1);
            c.registers("text " + m, x, 3, 0, 2, Check.OUTSIDE);
            c.due("memory stays", x.memory(0), OP);
        }
        SpanLinker x = withData(c, OP, 3, 3 * OP, 4);
        c.due("the first of data", x.run(2), 2);
        c.due("memory", x.memory(4), 3);
    }

    /** Words in data can be run, and written while they are run. */
    private static void programsWithFreeAddresses(Check c) {
        SpanLinker x = new SpanLinker();
        c.write(x, 0, Check.s(Check.JUMP, 1, 0), Check.s(Check.SECTION, Check.DATA), Check.s(Check.LABEL, 1),
            Check.s(Check.NUMBER, OP), Check.s(Check.NUMBER, 10 * OP), Check.s(Check.NUMBER, 3 * OP),
            Check.s(Check.ADDRESS, 2, 0), Check.s(Check.LABEL, 2), Check.s(Check.NUMBER, 65535),
            Check.s(Check.NUMBER, 0));
        c.linkAndStart(x, -1, 0);
        c.due("run", x.run(100), 5);
        c.registers("written code", x, 10 * OP, 0, 7, 1);
        c.due("put out", x.register(5), 10 * OP);
    }
}
