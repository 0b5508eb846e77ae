/** The edges of the machine: promises 18 (start), 19 (feed), 20 (run), 21 (register) and 22 (memory). */
public final class MachineEdgesTest extends Check {
    private static final int OP = 4096;
    private static final int TAKE = 11 * OP;
    private static final int PUT = 10 * OP;
    private static final int BACK_TWO = 9 * OP + 253;

    public static void main(String[] args) {
        MachineEdgesTest t = new MachineEdgesTest();
        t.startWithoutImage();
        t.startFromEachImage();
        t.startIsNew();
        t.startAtTheName();
        t.startAtZero();
        t.emptyImage();
        t.feedNoWord();
        t.feedNoMachine();
        t.feedEight();
        t.feedEightTaken();
        t.feedSinceStart();
        t.feedAnyState();
        t.tapeInOrder();
        t.noneOnTheTape();
        t.runNoMachine();
        t.runWrongNumbers();
        t.runAtMost();
        t.runToHalt();
        t.runToIllegal();
        t.runToOutside();
        t.registerNoMachine();
        t.registerNoneOfThese();
        t.latestWords();
        t.manyWordsPutOut();
        t.memoryNoMachine();
        t.memoryNoSuchAddress();
        t.memoryOfAFullImage();
        t.end();
    }

    private void startWithoutImage() {
        sentence("False when there is no image (start)");
        SpanLinker x = new SpanLinker();
        write(x, 0, s(NUMBER, 1));
        items(x, 0);
        due("not linked", x.start(), false);
        noMachine("not linked", x);
        due("link(1)", x.link(1), SpanLinker.UNDEFINED);
        due("failed", x.start(), false);
        noMachine("failed", x);
        due("link(-1)", x.link(-1), 0);
        noMachine("linked, not started", x);
        due("start", x.start(), true);
        due("memory(0)", x.memory(0), 1);
        due("link(1)", x.link(1), SpanLinker.UNDEFINED);
        due("failed again", x.start(), false);
        noMachine("failed again", x);
    }

    private void startFromEachImage() {
        sentence("Makes a new machine from the image: its memory as linked");
        SpanLinker x = new SpanLinker();
        items(x, 0);
        for (int count = 20; count >= 0; count -= 4) {
            x.clear(0);
            for (int k = 0; k < count; k++) {
                write(x, 0, s(NUMBER, count + k));
            }
            due("link", x.link(-1), 0);
            due("start", x.start(), true);
            for (int k = 0; k <= 20; k++) {
                due("memory(" + k + ")", x.memory(k), k < count ? count + k : -1);
            }
        }
    }

    private void startIsNew() {
        sentence("A and R 0, .. nothing put out, an empty tape");
        SpanLinker x = new SpanLinker();
        // call 3; halt; take in; put out; A into data; return
        write(x, 0, s(NUMBER, 6 * OP), s(NUMBER, 3), s(NUMBER, 0), s(NUMBER, TAKE), s(NUMBER, PUT), s(NUMBER, 3 * OP),
            s(ADDRESS, 1, 0), s(NUMBER, 7 * OP), s(SECTION, DATA), s(LABEL, 1), s(NUMBER, 500));
        linkAndStart(x, -1, 0);
        due("feed", x.feed(21), true);
        due("feed", x.feed(22), true);
        due("run", x.run(100), 6);
        registers("halted", x, 21, 2, 2, HALTED);
        due("memory", x.memory(8), 21);
        for (int round = 0; round < 2; round++) {
            due("start", x.start(), true);
            registers("new", x, 0, 0, 0, RUNNING);
            due("nothing put out", x.register(4), 0);
            for (int k = 5; k <= 8; k++) {
                due("register(" + k + ")", x.register(k), -1);
            }
            due("as linked", x.memory(8), 500);
        }
        due("run", x.run(100), 6);
        registers("the tape was empty", x, 0, 2, 2, HALTED);
        due("memory", x.memory(8), 0);
        due("one word put out", x.register(4), 1);
        due("the word", x.register(5), 0);
        due("and no other", x.register(6), -1);
    }

    private void startAtTheName() {
        sentence("PC what the name given to the link stands for");
        SpanLinker x = new SpanLinker();
        write(x, 0, s(NUMBER, 0), s(LABEL, 0), s(GLOBAL, 0), s(NUMBER, 0), s(SECTION, DATA), s(NUMBER, 0), s(LABEL, 1),
            s(GLOBAL, 1), s(VALUE, 2, 65535), s(GLOBAL, 2), s(VALUE, 3, 0), s(GLOBAL, 3), s(COMMON, 15, 4));
        items(x, 0);
        int[] names = {0, 1, 2, 3, 15};
        int[] places = {1, 3, 65535, 0, 3};
        for (int k = 0; k < names.length; k++) {
            due("link(" + names[k] + ")", x.link(names[k]), 0);
            due("start", x.start(), true);
            registers("at the name " + names[k], x, 0, 0, places[k], RUNNING);
            x.newLine();
            due("run", x.run(5), names[k] == 2 ? 0 : 1);
            due("start", x.start(), true);
            registers("again", x, 0, 0, places[k], RUNNING);
            due("link(-2), refused", x.link(-2), -1);
            due("start", x.start(), true);
            registers("a refused link gives no name", x, 0, 0, places[k], RUNNING);
            items(x, 0);
        }
    }

    private void startAtZero() {
        sentence("(0 when it was -1)");
        SpanLinker x = new SpanLinker();
        write(x, 0, s(NUMBER, 0), s(LABEL, 0), s(GLOBAL, 0), s(NUMBER, 0));
        linkAndStart(x, 0, 0);
        due("PC", x.register(2), 1);
        due("link(-1)", x.link(-1), 0);
        due("start", x.start(), true);
        due("PC", x.register(2), 0);
    }

    private void emptyImage() {
        sentence("OUTSIDE: the word at PC is not in the image: an image without words");
        SpanLinker x = new SpanLinker();
        linkAndStart(x, -1);
        due("memory(0)", x.memory(0), -1);
        registers("started", x, 0, 0, 0, RUNNING);
        due("run(0)", x.run(0), 0);
        registers("no step yet", x, 0, 0, 0, RUNNING);
        due("run(1)", x.run(1), 0);
        registers("OUTSIDE", x, 0, 0, 0, OUTSIDE);
        due("a tape is there all the same", x.feed(0), true);
    }

    private void feedNoWord() {
        sentence("false when v is no word (feed)");
        SpanLinker x = machineOf(TAKE, PUT, BACK_TWO);
        for (int v : beside(0, 65535)) {
            due("feed(" + v + ")", x.feed(v), false);
        }
        int[] words = {65535, 0, 32768, 1, 32767, 2, 3, 4};
        for (int v : words) {
            due("feed(" + v + ")", x.feed(v), true);
            due("feed(-1)", x.feed(-1), false);
            due("run", x.run(3), 3);
            due("the word", x.register(5), v);
        }
    }

    private void feedNoMachine() {
        sentence("false when .. there is no machine (feed)");
        SpanLinker x = new SpanLinker();
        due("new", x.feed(1), false);
        write(x, 0, s(NUMBER, TAKE));
        items(x, 0);
        due("link", x.link(-1), 0);
        due("an image alone", x.feed(1), false);
        due("start", x.start(), true);
        due("run", x.run(1), 1);
        due("nothing was put on the tape", x.register(0), 0);
        due("feed", x.feed(1), true);
        due("link", x.link(-1), 0);
        due("thrown away", x.feed(1), false);
    }

    private void feedEight() {
        sentence("false when .. 8 words were put there since start");
        SpanLinker x = machineOf(TAKE, PUT, BACK_TWO);
        for (int k = 1; k <= 8; k++) {
            due("feed " + k, x.feed(k), true);
        }
        for (int k = 0; k < 3; k++) {
            due("the ninth", x.feed(99), false);
        }
        for (int k = 1; k <= 8; k++) {
            due("run", x.run(3), 3);
            due("word " + k, x.register(5), k);
        }
        due("run", x.run(3), 3);
        due("the ninth is not there", x.register(5), 0);
    }

    private void feedEightTaken() {
        sentence("(taken or not)");
        SpanLinker x = machineOf(TAKE, PUT, BACK_TWO);
        for (int k = 1; k <= 8; k++) {
            due("feed " + k, x.feed(10 * k), true);
            due("run", x.run(3), 3);
            due("it is taken", x.register(5), 10 * k);
        }
        due("the ninth", x.feed(90), false);
        due("run", x.run(3), 3);
        due("the ninth is not there", x.register(5), 0);
        due("the ninth still", x.feed(90), false);
    }

    private void feedSinceStart() {
        sentence("8 words were put there since start: a new machine");
        SpanLinker x = machineOf(TAKE, PUT, BACK_TWO);
        for (int round = 0; round < 3; round++) {
            for (int k = 1; k <= 8; k++) {
                due("feed " + k, x.feed(100 * round + k), true);
            }
            due("the ninth", x.feed(1), false);
            due("run", x.run(6), 6);
            due("the second word", x.register(5), 100 * round + 2);
            due("start", x.start(), true);
        }
    }

    private void feedAnyState() {
        sentence("Puts a word on the tape's end: in every state");
        int[] ends = {0, 14 * OP, 12 * OP, 9 * OP + 255};
        int[] states = {HALTED, ILLEGAL, RUNNING, RUNNING};
        for (int k = 0; k < ends.length; k++) {
            SpanLinker x = machineOf(ends[k]);
            x.run(1);
            due("state", x.register(3), states[k]);
            due("feed", x.feed(7), true);
            due("state", x.register(3), states[k]);
        }
        SpanLinker out = machineOf(8 * OP, 9);
        due("run", out.run(2), 1);
        registers("OUTSIDE", out, 0, 0, 9, OUTSIDE);
        due("feed", out.feed(7), true);
        registers("OUTSIDE still", out, 0, 0, 9, OUTSIDE);
    }

    private void tapeInOrder() {
        sentence("A = the next word of the tape");
        SpanLinker x = machineOf(TAKE, TAKE + 4095, TAKE + 1, 0);
        due("feed", x.feed(5), true);
        due("feed", x.feed(6), true);
        due("run", x.run(1), 1);
        registers("the first", x, 5, 0, 1, RUNNING);
        due("feed", x.feed(7), true);
        due("run", x.run(1), 1);
        registers("the second", x, 6, 0, 2, RUNNING);
        due("run", x.run(1), 1);
        registers("the third", x, 7, 0, 3, RUNNING);
    }

    private void noneOnTheTape() {
        sentence("0 if there is none (tape)");
        SpanLinker x = machineOf(OP, 9, TAKE, OP, 9, TAKE, TAKE);
        due("run", x.run(2), 2);
        registers("an empty tape", x, 0, 0, 3, RUNNING);
        due("feed", x.feed(8), true);
        due("run", x.run(2), 2);
        registers("a word that came later is not lost", x, 8, 0, 6, RUNNING);
        due("run", x.run(1), 1);
        registers("all are taken", x, 0, 0, 7, RUNNING);
    }

    private void runNoMachine() {
        sentence("-1, refused, when there is no machine (run)");
        SpanLinker x = new SpanLinker();
        due("new: run(0)", x.run(0), -1);
        due("new: run(1000)", x.run(1000), -1);
        due("link", x.link(-1), 0);
        due("an image alone: run(1)", x.run(1), -1);
        due("start", x.start(), true);
        due("run(0)", x.run(0), 0);
        due("link", x.link(-1), 0);
        due("thrown away: run(0)", x.run(0), -1);
    }

    private void runWrongNumbers() {
        sentence("-1, refused, when .. n is not 0 .. 1000");
        int[] texts = {9 * OP + 255, 0, 14 * OP};
        int[] states = {RUNNING, HALTED, ILLEGAL};
        for (int k = 0; k < texts.length; k++) {
            SpanLinker x = machineOf(texts[k]);
            for (int n : beside(0, 1000)) {
                due("run(" + n + ")", x.run(n), -1);
                registers("no step was done", x, 0, 0, 0, RUNNING);
            }
            due("run(0)", x.run(0), 0);
            registers("no step was done", x, 0, 0, 0, RUNNING);
            x.run(1000);
            due("state", x.register(3), states[k]);
            for (int n : beside(0, 1000)) {
                due("refused in every state: run(" + n + ")", x.run(n), -1);
            }
        }
    }

    private void runAtMost() {
        sentence("Does at most n steps");
        SpanLinker x = machineOf(13 * OP, 13 * OP, 13 * OP, 9 * OP + 252);
        int pc = 0;
        int[] steps = {0, 1, 2, 3, 4, 5, 999, 1000};
        for (int n : steps) {
            due("run(" + n + ")", x.run(n), n);
            pc = (pc + n) % 4;
            registers("after " + n, x, 0, 0, pc, RUNNING);
        }
    }

    private void runToHalt() {
        sentence("fewer when the machine comes out of running: how many were done (.. HALT does)");
        for (int n = 0; n <= 6; n++) {
            SpanLinker x = machineOf(13 * OP, 13 * OP, 13 * OP, 0, 13 * OP);
            due("run(" + n + ")", x.run(n), Math.min(n, 4));
            registers("run(" + n + ")", x, 0, 0, Math.min(n, 3), n > 3 ? HALTED : RUNNING);
            due("the rest", x.run(1000), 4 - Math.min(n, 4));
            due("no more", x.run(1000), 0);
            registers("halted", x, 0, 0, 3, HALTED);
        }
    }

    private void runToIllegal() {
        sentence("(one that is ILLEGAL .. does not count / the machine stays in that state)");
        for (int n = 0; n <= 6; n++) {
            SpanLinker x = machineOf(13 * OP, 13 * OP, 13 * OP, 15 * OP, 13 * OP);
            due("run(" + n + ")", x.run(n), Math.min(n, 3));
            registers("run(" + n + ")", x, 0, 0, Math.min(n, 3), n > 3 ? ILLEGAL : RUNNING);
            due("the rest", x.run(1000), 3 - Math.min(n, 3));
            due("no more", x.run(1000), 0);
            registers("illegal", x, 0, 0, 3, ILLEGAL);
        }
    }

    private void runToOutside() {
        sentence("(one that is .. OUTSIDE does not count / the machine stays in that state)");
        for (int n = 0; n <= 6; n++) {
            SpanLinker x = machineOf(13 * OP, 13 * OP, 13 * OP);
            due("run(" + n + ")", x.run(n), Math.min(n, 3));
            registers("run(" + n + ")", x, 0, 0, Math.min(n, 3), n > 3 ? OUTSIDE : RUNNING);
            due("the rest", x.run(1000), 3 - Math.min(n, 3));
            due("no more", x.run(1000), 0);
            registers("outside", x, 0, 0, 3, OUTSIDE);
        }
    }

    private void registerNoMachine() {
        sentence("-1 when there is no machine (register)");
        SpanLinker x = new SpanLinker();
        noMachine("new", x);
        due("link", x.link(-1), 0);
        noMachine("an image alone", x);
        due("start", x.start(), true);
        due("register(3)", x.register(3), RUNNING);
        due("link(0)", x.link(0), SpanLinker.UNDEFINED);
        noMachine("thrown away", x);
    }

    private void registerNoneOfThese() {
        sentence("-1 when .. k is none of these (register)");
        SpanLinker x = machineOf(PUT, PUT, PUT, PUT, PUT, PUT, 0);
        due("run", x.run(100), 7);
        for (int k : beside(0, 8)) {
            due("register(" + k + ")", x.register(k), -1);
        }
        for (int k = 9; k < 30; k++) {
            due("register(" + k + ")", x.register(k), -1);
        }
        due("register(8)", x.register(8), 0);
    }

    private void latestWords() {
        sentence("5 .. 8: the latest word put out, the one before, .. (-1 when there were not so many)");
        SpanLinker x = machineOf(TAKE, PUT, BACK_TWO);
        for (int put = 0; put <= 8; put++) {
            due("how many", x.register(4), put);
            for (int k = 5; k <= 8; k++) {
                int nth = put - (k - 5);
                due(put + " put out: register(" + k + ")", x.register(k), nth > 0 ? 65536 - nth : -1);
            }
            if (put < 8) {
                due("feed", x.feed(65535 - put), true);
                due("run", x.run(3), 3);
            }
        }
        SpanLinker zero = machineOf(PUT, 0);
        due("run", zero.run(1), 1);
        due("a 0 put out", zero.register(5), 0);
        due("none before", zero.register(6), -1);
    }

    private void manyWordsPutOut() {
        sentence("4: how many words were put out");
        int[] text = new int[20];
        for (int k = 0; k < 19; k++) {
            text[k] = PUT;
        }
        text[19] = 9 * OP + 256 - 20;
        SpanLinker x = machineOf(text);
        for (int k = 1; k <= 80; k++) {
            due("run(1000)", x.run(1000), 1000);
            due("how many", x.register(4), 950 * k);
        }
    }

    private void memoryNoMachine() {
        sentence("-1 when there is no machine (memory)");
        SpanLinker x = new SpanLinker();
        write(x, 0, s(NUMBER, 8));
        due("new", x.memory(0), -1);
        items(x, 0);
        due("link", x.link(-1), 0);
        due("an image alone", x.memory(0), -1);
        due("start", x.start(), true);
        due("memory(0)", x.memory(0), 8);
        due("link", x.link(-1), 0);
        due("thrown away", x.memory(0), -1);
    }

    private void memoryNoSuchAddress() {
        sentence("-1 when .. no such address (memory)");
        for (int count = 0; count <= 20; count++) {
            int[] text = new int[count];
            for (int k = 0; k < count; k++) {
                text[k] = 100 + k;
            }
            SpanLinker x = machineOf(text);
            for (int k = -2; k < count + 3; k++) {
                due("memory(" + k + ") of " + count, x.memory(k), k >= 0 && k < count ? 100 + k : -1);
            }
            for (int k : beside(0, count - 1)) {
                due("memory(" + k + ") of " + count, x.memory(k), -1);
            }
            due("memory(199)", x.memory(199), -1);
            due("memory(200)", x.memory(200), -1);
        }
    }

    private void memoryOfAFullImage() {
        sentence("The word of the machine's memory at an address: an image of 200 words");
        SpanLinker x = new SpanLinker();
        write(x, 0, s(NUMBER, OP), s(NUMBER, 65535), s(NUMBER, 3 * OP), s(NUMBER, 199), s(NUMBER, 3 * OP), s(NUMBER, 200),
            s(SECTION, BSS));
        space(x, 0, 194);
        linkAndStart(x, -1, 0);
        due("run", x.run(1000), 2);
        registers("the second store is OUTSIDE", x, 65535, 0, 4, OUTSIDE);
        due("memory(199)", x.memory(199), 65535);
        due("memory(198)", x.memory(198), 0);
        due("memory(200)", x.memory(200), -1);
        due("word(199)", x.word(199), 0);
    }
}
