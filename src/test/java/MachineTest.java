/** Promises 18 (start), 19 (feed), 20 (run), 21 (register) and 22 (memory). */
public final class MachineTest {

    public static void main(String[] args) {
        Check c = new Check();
        startingAtAName(c);
        startingAgain(c);
        feeding(c);
        tapeOrder(c);
        runArguments(c);
        stepsAreCounted(c);
        haltingWords(c);
        puttingOut(c);
        memoryAnswers(c);
        c.end();
    }

    private static void startingAtAName(Check c) {
        SpanLinker x = new SpanLinker();
        c.write(x, 0, Check.s(Check.SPACE, 5), Check.s(Check.LABEL, 3), Check.s(Check.GLOBAL, 3),
            Check.s(Check.VALUE, 4, 65535), Check.s(Check.GLOBAL, 4), Check.s(Check.COMMON, 5, 2));
        c.linkAndStart(x, 3, 0);
        c.registers("a label", x, 0, 0, 5, Check.RUNNING);
        c.due("put out", x.register(4), 0);
        c.due("link", x.link(4), 0);
        c.due("start", x.start(), true);
        c.registers("a VALUE", x, 0, 0, 65535, Check.RUNNING);
        c.due("far out", x.run(1), 0);
        c.registers("a VALUE outside", x, 0, 0, 65535, Check.OUTSIDE);
        c.due("link", x.link(5), 0);
        c.due("start", x.start(), true);
        c.registers("a COMMON", x, 0, 0, 5, Check.RUNNING);
        c.due("the COMMON's words halt", x.run(9), 1);
        c.due("link", x.link(-1), 0);
        c.due("start", x.start(), true);
        c.registers("no name", x, 0, 0, 0, Check.RUNNING);
    }

    private static void startingAgain(Check c) {
        SpanLinker x = new SpanLinker();
        // call 4; halt; halt; A = 7; data = A; put out; take in; halt
        c.write(x, 0, Check.s(Check.NUMBER, 6 * 4096), Check.s(Check.NUMBER, 4), Check.s(Check.SPACE, 2),
            Check.s(Check.NUMBER, 4096), Check.s(Check.NUMBER, 7), Check.s(Check.NUMBER, 3 * 4096),
            Check.s(Check.ADDRESS, 1, 0), Check.s(Check.NUMBER, 10 * 4096), Check.s(Check.NUMBER, 11 * 4096),
            Check.s(Check.NUMBER, 0), Check.s(Check.SECTION, Check.DATA), Check.s(Check.LABEL, 1),
            Check.s(Check.NUMBER, 99));
        c.linkAndStart(x, -1, 0);
        c.due("feed", x.feed(50), true);
        c.due("run", x.run(1000), 6);
        c.registers("halted", x, 50, 2, 10, Check.HALTED);
        c.due("memory", x.memory(11), 7);
        c.due("put out", x.register(4), 1);
        c.due("the latest", x.register(5), 7);
        c.due("start again", x.start(), true);
        c.registers("new", x, 0, 0, 0, Check.RUNNING);
        c.due("memory as linked", x.memory(11), 99);
        c.due("nothing put out", x.register(4), 0);
        c.due("no latest", x.register(5), -1);
        for (int k = 0; k < 8; k++) {
            c.due("feed after start", x.feed(k), true);
        }
        c.due("start", x.start(), true);
        c.due("run", x.run(1000), 6);
        c.registers("an empty tape", x, 0, 2, 10, Check.HALTED);
    }

    private static void feeding(Check c) {
        SpanLinker none = new SpanLinker();
        c.due("no machine", none.feed(1), false);
        c.due("link", none.link(-1), 0);
        c.due("an image is no machine", none.feed(1), false);
        SpanLinker x = c.machineOf(11 * 4096, 11 * 4096, 0);
        int[] wrong = {-1, 65536, Integer.MIN_VALUE, Integer.MAX_VALUE};
        for (int v : wrong) {
            c.due("feed(" + v + ")", x.feed(v), false);
        }
        c.due("feed(65535)", x.feed(65535), true);
        c.due("feed(0)", x.feed(0), true);
        c.due("run", x.run(1), 1);
        c.registers("taken", x, 65535, 0, 1, Check.RUNNING);
        for (int k = 0; k < 6; k++) {
            c.due("feed", x.feed(k), true);
        }
        c.due("the ninth, though one was taken", x.feed(1), false);
        SpanLinker halted = c.machineOf(0);
        c.due("run", halted.run(1), 1);
        c.due("a halted machine can be fed", halted.feed(1), true);
    }

    private static void tapeOrder(Check c) {
        SpanLinker x = c.machineOf(11 * 4096 + 5, 10 * 4096 + 5, 9 * 4096 + 253);
        c.due("feed", x.feed(1), true);
        c.due("feed", x.feed(2), true);
        c.due("run", x.run(9), 9);
        c.due("put out", x.register(4), 3);
        c.due("none left", x.register(5), 0);
        c.due("the second", x.register(6), 2);
        c.due("the first", x.register(7), 1);
        c.due("feed later", x.feed(3), true);
        c.due("run", x.run(3), 3);
        c.due("the next word", x.register(5), 3);
        for (int k = 4; k <= 8; k++) {
            c.due("feed", x.feed(k), true);
        }
        c.due("eight were put there", x.feed(9), false);
        c.due("run", x.run(15), 15);
        c.due("the eighth word", x.register(5), 8);
        c.due("run", x.run(3), 3);
        c.due("the tape is empty", x.register(5), 0);
        c.due("start", x.start(), true);
        c.due("feed", x.feed(21), true);
        c.due("run", x.run(3), 3);
        c.due("a new tape is read from its beginning", x.register(5), 21);
    }

    private static void runArguments(Check c) {
        SpanLinker none = new SpanLinker();
        c.due("no machine", none.run(1), -1);
        SpanLinker x = c.machineOf(9 * 4096 + 255);
        int[] wrong = {-1, 1001, Integer.MIN_VALUE, Integer.MAX_VALUE};
        for (int n : wrong) {
            c.due("run(" + n + ")", x.run(n), -1);
        }
        c.due("run(0)", x.run(0), 0);
        c.due("run(1000)", x.run(1000), 1000);
        c.registers("for ever", x, 0, 0, 0, Check.RUNNING);
    }

    private static void stepsAreCounted(Check c) {
        SpanLinker x = c.machineOf(13 * 4096, 13 * 4096, 0);
        c.due("run(2)", x.run(2), 2);
        c.registers("not yet", x, 0, 0, 2, Check.RUNNING);
        c.due("run(0)", x.run(0), 0);
        c.registers("still", x, 0, 0, 2, Check.RUNNING);
        c.due("HALT counts", x.run(1), 1);
        c.registers("halted", x, 0, 0, 2, Check.HALTED);
        c.due("no more", x.run(1000), 0);
        c.due("wrong n is refused all the same", x.run(1001), -1);
        SpanLinker y = c.machineOf(13 * 4096, 14 * 4096);
        c.due("ILLEGAL does not count", y.run(1000), 1);
        c.registers("illegal", y, 0, 0, 1, Check.ILLEGAL);
        c.due("it stays", y.run(1000), 0);
        c.registers("illegal still", y, 0, 0, 1, Check.ILLEGAL);
        SpanLinker z = c.machineOf(13 * 4096);
        c.due("OUTSIDE does not count", z.run(1000), 1);
        c.registers("outside", z, 0, 0, 1, Check.OUTSIDE);
        c.due("it stays", z.run(1000), 0);
        c.registers("outside still", z, 0, 0, 1, Check.OUTSIDE);
    }

    private static void haltingWords(Check c) {
        int[] halts = {0, 1, 255, 4095};
        for (int w : halts) {
            SpanLinker x = c.machineOf(w);
            c.due("HALT " + w, x.run(1000), 1);
            c.registers("HALT " + w, x, 0, 0, 0, Check.HALTED);
        }
        int[] illegals = {14 * 4096, 15 * 4096 - 1, 15 * 4096, 65535};
        for (int w : illegals) {
            SpanLinker x = c.machineOf(w, 0, 0);
            c.due("ILLEGAL " + w, x.run(1000), 0);
            c.registers("ILLEGAL " + w, x, 0, 0, 0, Check.ILLEGAL);
        }
    }

    private static void puttingOut(Check c) {
        SpanLinker x = c.machineOf(11 * 4096, 10 * 4096, 9 * 4096 + 253);
        int[] wrong = {-1, 9, 10, Integer.MIN_VALUE, Integer.MAX_VALUE};
        for (int put = 0; put <= 8; put++) {
            c.due("how many", x.register(4), put);
            for (int k = 5; k <= 8; k++) {
                int word = put - (k - 5);
                c.due(put + " put out: register(" + k + ")", x.register(k), word > 0 ? word : -1);
            }
            for (int k : wrong) {
                c.due("register(" + k + ")", x.register(k), -1);
            }
            if (put < 8) {
                c.due("feed", x.feed(put + 1), true);
                c.due("run", x.run(3), 3);
            }
        }
        SpanLinker many = c.machineOf(10 * 4096, 9 * 4096 + 254);
        for (int k = 0; k < 100; k++) {
            c.due("run(1000)", many.run(1000), 1000);
        }
        c.due("50000 words", many.register(4), 50000);
    }

    private static void memoryAnswers(Check c) {
        SpanLinker x = c.machineOf(5, 6, 65535);
        c.due("memory(0)", x.memory(0), 5);
        c.due("memory(2)", x.memory(2), 65535);
        int[] wrong = {-1, 3, 199, 200, Integer.MIN_VALUE, Integer.MAX_VALUE};
        for (int address : wrong) {
            c.due("memory(" + address + ")", x.memory(address), -1);
        }
        x.clear(0);
        x.newLine();
        c.due("memory stays", x.memory(1), 6);
        c.due("link of nothing", x.link(-1), 0);
        c.due("no machine", x.memory(0), -1);
        c.due("start", x.start(), true);
        c.due("no words", x.memory(0), -1);
        c.due("run", x.run(1), 0);
        c.registers("no words", x, 0, 0, 0, Check.OUTSIDE);
        c.due("nothing left of the machine before", x.memory(1), -1);
    }
}
