/** The edges of a STEP: each operation, ILLEGAL and OUTSIDE, as the Terms say (promises 20, 21, 22). */
public final class StepEdgesTest extends Check {
    private static final int OP = 4096;
    private static final int[] TWO_WORDS = {1, 2, 3, 4, 5, 6, 8};
    private static final int[] TOUCHING = {2, 3, 4, 5};

    public static void main(String[] args) {
        StepEdgesTest t = new StepEdgesTest();
        t.halt();
        t.loadNumber();
        t.loadAndStore();
        t.sumsOverTheEdge();
        t.differencesOverTheEdge();
        t.call();
        t.callFromTheEnd();
        t.goBack();
        t.longJumps();
        t.shortJumps();
        t.shortJumpsOverTheEdge();
        t.conditionAlways();
        t.conditionZero();
        t.conditionHigh();
        t.conditionNotZero();
        t.putOut();
        t.loadAtA();
        t.shifts();
        t.illegal();
        t.illegalChangesNothing();
        t.wordAtPcIsOutside();
        t.secondWordIsOutside();
        t.secondWordInDataOrBss();
        t.memoryWordIsOutside();
        t.wordAtAIsOutside();
        t.storeIntoText();
        t.anyWordIsFine();
        t.outsideChangesNothing();
        t.lowBitsThatDoNotMatter();
        t.wordsThatAreWrittenAreRun();
        t.end();
    }

    /** Module 0: the words as text; then data 1000, 40000, 65535 and one word of bss. */
    private SpanLinker withData(int... text) {
        SpanLinker x = new SpanLinker();
        for (int w : text) {
            write(x, 0, s(NUMBER, w));
        }
        write(x, 0, s(SECTION, DATA), s(NUMBER, 1000), s(NUMBER, 40000), s(NUMBER, 65535), s(SECTION, BSS), s(SPACE, 1));
        linkAndStart(x, -1, 0);
        return x;
    }

    private void runs(SpanLinker x, int n, int done) {
        due("run(" + n + ")", x.run(n), done);
    }

    private void halt() {
        sentence("0 HALT: the machine has halted, PC stays");
        int[] halts = {0, 1, 255, 256, 4095};
        for (int w : halts) {
            SpanLinker x = machineOf(13 * OP, w, 13 * OP);
            runs(x, 1000, 2);
            registers("HALT " + w, x, 0, 0, 1, HALTED);
            due("nothing put out", x.register(4), 0);
            runs(x, 1000, 0);
            registers("HALT " + w, x, 0, 0, 1, HALTED);
        }
    }

    private void loadNumber() {
        sentence("1 A = m");
        int[] values = {0, 1, 32767, 32768, 65535};
        for (int m : values) {
            SpanLinker x = machineOf(OP + m % OP, m);
            runs(x, 1, 1);
            registers("A = " + m, x, m, 0, 2, RUNNING);
        }
    }

    private void loadAndStore() {
        sentence("2 A = M. 3 M = A");
        int[] due = {2 * OP, 1, 3 * OP, 7, 1000, 40000, 65535, 0};
        for (int m = 0; m < 8; m++) {
            SpanLinker x = withData(2 * OP, m, 3 * OP, 7);
            runs(x, 1, 1);
            registers("A = word " + m, x, due[m], 0, 2, RUNNING);
            runs(x, 1, 1);
            registers("stored", x, due[m], 0, 4, RUNNING);
            due("memory(7)", x.memory(7), due[m]);
            due("memory(6)", x.memory(6), 65535);
        }
    }

    private void sumsOverTheEdge() {
        sentence("4 A = A + M: sums .. of words are taken modulo 65536");
        int[][] sums = {{0, 65535, 65535}, {1, 65535, 0}, {2, 65535, 1}, {65535, 65535, 65534}, {25535, 40000, 65535},
            {25536, 40000, 0}, {25537, 40000, 1}, {64535, 1000, 65535}, {64536, 1000, 0}, {0, 0, 0}};
        for (int[] sum : sums) {
            SpanLinker x = withData(OP, sum[0], 4 * OP, place(sum[1]));
            runs(x, 2, 2);
            registers(sum[0] + " + " + sum[1], x, sum[2], 0, 4, RUNNING);
        }
    }

    private void differencesOverTheEdge() {
        sentence("5 A = A - M: .. differences of words are taken modulo 65536");
        int[][] differences = {{65535, 65535, 0}, {65534, 65535, 65535}, {0, 65535, 1}, {1000, 1000, 0},
            {999, 1000, 65535}, {0, 1000, 64536}, {40001, 40000, 1}, {40000, 40000, 0}, {39999, 40000, 65535}, {7, 0, 7}};
        for (int[] difference : differences) {
            SpanLinker x = withData(OP, difference[0], 5 * OP, place(difference[1]));
            runs(x, 2, 2);
            registers(difference[0] + " - " + difference[1], x, difference[2], 0, 4, RUNNING);
        }
    }

    /** Where the word lies behind a text of four words. */
    private static int place(int word) {
        return word == 1000 ? 4 : word == 40000 ? 5 : word == 65535 ? 6 : 7;
    }

    private void call() {
        sentence("6 R = PC + 2, then PC = m");
        int[] targets = {0, 1, 2, 3, 199, 200, 65535};
        for (int m : targets) {
            SpanLinker x = machineOf(13 * OP, 6 * OP + 77, m);
            runs(x, 2, 2);
            registers("call " + m, x, 0, 3, m, RUNNING);
        }
        SpanLinker x = machineOf(6 * OP, 2, 6 * OP, 0);
        runs(x, 2, 2);
        registers("the second call", x, 0, 4, 0, RUNNING);
        runs(x, 1, 1);
        registers("the first again", x, 0, 2, 2, RUNNING);
    }

    private void callFromTheEnd() {
        sentence("R = PC + 2: at the end of the image");
        SpanLinker x = new SpanLinker();
        space(x, 0, 198);
        write(x, 0, s(LABEL, 0), s(GLOBAL, 0), s(NUMBER, 6 * OP), s(NUMBER, 65535));
        linkAndStart(x, 0, 0);
        runs(x, 1, 1);
        registers("the last two words", x, 0, 200, 65535, RUNNING);
        runs(x, 1, 0);
        registers("then OUTSIDE", x, 0, 200, 65535, OUTSIDE);
    }

    private void goBack() {
        sentence("7 PC = R");
        SpanLinker x = machineOf(13 * OP, 7 * OP + 4095);
        runs(x, 2, 2);
        registers("R is 0", x, 0, 0, 0, RUNNING);
        SpanLinker y = machineOf(6 * OP, 3, 0, 7 * OP);
        runs(y, 2, 2);
        registers("R stays", y, 0, 2, 2, RUNNING);
        SpanLinker z = machineOf(8 * OP, 3, 7 * OP, 6 * OP, 2);
        runs(z, 3, 3);
        registers("behind the last word", z, 0, 5, 5, RUNNING);
        runs(z, 1, 0);
        registers("OUTSIDE", z, 0, 5, 5, OUTSIDE);
    }

    private void longJumps() {
        sentence("8 jump to m");
        int[] targets = {0, 1, 2, 3, 200, 32768, 65535};
        for (int m : targets) {
            SpanLinker x = machineOf(13 * OP, 8 * OP + 255, m);
            runs(x, 2, 2);
            registers("jump to " + m, x, 0, 0, m, RUNNING);
        }
    }

    private void shortJumps() {
        sentence("9 jump to PC + 1 + d, d being n % 256, less 256 if that is above 127");
        int[] lows = {0, 1, 7, 126, 127, 248, 254, 255};
        int[] pcs = {10, 11, 17, 136, 137, 2, 8, 9};
        for (int k = 0; k < lows.length; k++) {
            for (int high = 0; high < 4096; high += 1024) {
                SpanLinker x = machineOf(8 * OP, 9, 0, 0, 0, 0, 0, 0, 0, 9 * OP + high + lows[k]);
                runs(x, 2, 2);
                registers("n is " + (high + lows[k]), x, 0, 0, pcs[k], RUNNING);
            }
        }
    }

    private void shortJumpsOverTheEdge() {
        sentence("sums .. of words are taken modulo 65536: PC + 1 + d");
        int[] lows = {254, 253, 129, 128};
        int[] pcs = {65535, 65534, 65410, 65409};
        for (int k = 0; k < lows.length; k++) {
            SpanLinker x = machineOf(9 * OP + lows[k]);
            runs(x, 1, 1);
            registers("below 0", x, 0, 0, pcs[k], RUNNING);
            runs(x, 5, 0);
            registers("OUTSIDE", x, 0, 0, pcs[k], OUTSIDE);
        }
        SpanLinker far = new SpanLinker();
        space(far, 0, 199);
        write(far, 0, s(LABEL, 0), s(GLOBAL, 0), s(NUMBER, 9 * OP + 127));
        linkAndStart(far, 0, 0);
        runs(far, 1, 1);
        registers("the farthest forward", far, 0, 0, 327, RUNNING);
    }

    /** A long and a short jump with A and each n of this condition: whether they jump. */
    private void condition(int condition, int a, boolean jumps) {
        for (int high = 0; high < 4096; high += 1024) {
            int n = high + 256 * condition;
            SpanLinker x = machineOf(OP, a, 8 * OP + n, 777);
            runs(x, 2, 2);
            registers("long, A is " + a, x, a, 0, jumps ? 777 : 4, RUNNING);
            SpanLinker y = machineOf(OP, a, 9 * OP + n + 5);
            runs(y, 2, 2);
            registers("short, A is " + a, y, a, 0, jumps ? 8 : 3, RUNNING);
            SpanLinker z = machineOf(OP, a, 9 * OP + n + 255);
            runs(z, 2, 2);
            registers("back, A is " + a, z, a, 0, jumps ? 2 : 3, RUNNING);
        }
    }

    private void conditionAlways() {
        sentence("8 and 9 jump if the condition n / 256 % 4 holds: 0 always");
        int[] values = {0, 1, 32767, 32768, 65535};
        for (int a : values) {
            condition(0, a, true);
        }
    }

    private void conditionZero() {
        sentence("1 if A is 0");
        condition(1, 0, true);
        int[] others = {1, 2, 32767, 32768, 65535};
        for (int a : others) {
            condition(1, a, false);
        }
    }

    private void conditionHigh() {
        sentence("2 if A is 32768 or more");
        int[] low = {0, 1, 32766, 32767};
        for (int a : low) {
            condition(2, a, false);
        }
        int[] high = {32768, 32769, 65534, 65535};
        for (int a : high) {
            condition(2, a, true);
        }
    }

    private void conditionNotZero() {
        sentence("3 if A is not 0");
        condition(3, 0, false);
        int[] others = {1, 2, 32767, 32768, 65535};
        for (int a : others) {
            condition(3, a, true);
        }
    }

    private void putOut() {
        sentence("10 A is put out");
        int[] values = {0, 32768, 65535};
        for (int a : values) {
            SpanLinker x = machineOf(OP, a, 10 * OP + 4095);
            runs(x, 2, 2);
            registers("put out " + a, x, a, 0, 3, RUNNING);
            due("how many", x.register(4), 1);
            due("the word", x.register(5), a);
        }
    }

    private void loadAtA() {
        sentence("12 A = the memory word at address A");
        int[] due = {OP, 1, 12 * OP + 9, 1000, 40000, 65535, 0};
        for (int a = 0; a < due.length; a++) {
            SpanLinker x = withData(OP, a, 12 * OP + 9);
            runs(x, 2, 2);
            registers("A is " + a, x, due[a], 0, 3, RUNNING);
        }
    }

    private void shifts() {
        sentence("13 A = A >>> (n % 16)");
        int[] values = {65535, 32768, 40001, 1, 0};
        int[] ns = {0, 1, 7, 14, 15, 16, 17, 31, 32, 256, 4080, 4095};
        for (int a : values) {
            for (int n : ns) {
                SpanLinker x = machineOf(OP, a, 13 * OP + n);
                runs(x, 2, 2);
                int shifted = a;
                for (int k = 0; k < n % 16; k++) {
                    shifted /= 2;
                }
                registers(a + " by " + n, x, shifted, 0, 3, RUNNING);
            }
        }
    }

    private void illegal() {
        sentence("Others: ILLEGAL");
        int[] words = {14 * OP, 14 * OP + 1, 15 * OP - 1, 15 * OP, 65535};
        for (int w : words) {
            SpanLinker x = machineOf(13 * OP, w, 0);
            runs(x, 1000, 1);
            registers("ILLEGAL " + w, x, 0, 0, 1, ILLEGAL);
            SpanLinker last = machineOf(13 * OP, w);
            runs(last, 1000, 1);
            registers("ILLEGAL at the end " + w, last, 0, 0, 1, ILLEGAL);
        }
        SpanLinker edge = machineOf(14 * OP - 1);
        runs(edge, 1, 1);
        registers("13 is not", edge, 0, 0, 1, RUNNING);
    }

    private void illegalChangesNothing() {
        sentence("A step that is ILLEGAL .. changes nothing but that, and the machine stays in that state");
        SpanLinker x = new SpanLinker();
        write(x, 0, s(NUMBER, 6 * OP), s(NUMBER, 2), s(NUMBER, 11 * OP), s(NUMBER, 10 * OP), s(NUMBER, 3 * OP),
            s(NUMBER, 7), s(NUMBER, 65535), s(SECTION, BSS), s(SPACE, 1));
        linkAndStart(x, -1, 0);
        due("feed", x.feed(9), true);
        due("feed", x.feed(10), true);
        for (int round = 0; round < 3; round++) {
            runs(x, 1000, round == 0 ? 4 : 0);
            registers("illegal", x, 9, 2, 6, ILLEGAL);
            due("put out", x.register(4), 1);
            due("the word", x.register(5), 9);
            due("memory(7)", x.memory(7), 9);
            due("memory(6)", x.memory(6), 65535);
        }
        due("start", x.start(), true);
        registers("a new machine runs", x, 0, 0, 0, RUNNING);
    }

    private void wordAtPcIsOutside() {
        sentence("OUTSIDE: the word at PC is not in the image");
        int[] far = {2, 3, 199, 200, 201, 65535};
        for (int m : far) {
            SpanLinker x = machineOf(8 * OP, m);
            runs(x, 1000, 1);
            registers("PC is " + m, x, 0, 0, m, OUTSIDE);
        }
        SpanLinker x = machineOf(8 * OP, 1);
        runs(x, 1000, 2);
        registers("the last word is inside", x, 0, 0, 1, HALTED);
    }

    private void secondWordIsOutside() {
        sentence("for 1 to 6 and 8, the word at PC + 1 is not");
        for (int operation : TWO_WORDS) {
            for (int condition = 0; condition < 4; condition++) {
                SpanLinker x = machineOf(13 * OP, operation * OP + 256 * condition);
                runs(x, 1000, 1);
                registers("operation " + operation, x, 0, 0, 1, OUTSIDE);
            }
        }
        int[] oneWord = {9, 10, 11, 13};
        for (int operation : oneWord) {
            SpanLinker x = machineOf(13 * OP, operation * OP);
            runs(x, 2, 2);
            registers("operation " + operation, x, 0, 0, 2, RUNNING);
        }
        SpanLinker back = machineOf(13 * OP, 7 * OP);
        runs(back, 2, 2);
        registers("operation 7", back, 0, 0, 0, RUNNING);
        SpanLinker load = machineOf(13 * OP, 12 * OP);
        runs(load, 2, 2);
        registers("operation 12", load, 13 * OP, 0, 2, RUNNING);
    }

    private void secondWordInDataOrBss() {
        sentence("the word at PC + 1 .. in the image: of another section");
        SpanLinker x = new SpanLinker();
        write(x, 0, s(NUMBER, OP), s(SECTION, BSS), s(SPACE, 1));
        linkAndStart(x, -1, 0);
        runs(x, 1, 1);
        registers("the second word is bss", x, 0, 0, 2, RUNNING);
        SpanLinker y = new SpanLinker();
        write(y, 0, s(NUMBER, OP), s(COMMON, 1, 1));
        linkAndStart(y, -1, 0);
        runs(y, 1, 1);
        registers("the second word is a COMMON's", y, 0, 0, 2, RUNNING);
    }

    private void memoryWordIsOutside() {
        sentence("for 2 to 5, M is not");
        int[] far = {8, 9, 199, 200, 65535};
        for (int operation : TOUCHING) {
            for (int m : far) {
                SpanLinker x = withData(OP, 3, operation * OP, m);
                runs(x, 1000, 1);
                registers("operation " + operation + " at " + m, x, 3, 0, 2, OUTSIDE);
            }
            SpanLinker x = withData(OP, 3, operation * OP, 7);
            runs(x, 2, 2);
            registers("the last word is inside", x, operation == 2 ? 0 : 3, 0, 4, RUNNING);
        }
    }

    private void wordAtAIsOutside() {
        sentence("for 12, the word at address A is not");
        int[] far = {7, 8, 199, 200, 65535};
        for (int a : far) {
            SpanLinker x = withData(OP, a, 12 * OP);
            runs(x, 1000, 1);
            registers("A is " + a, x, a, 0, 2, OUTSIDE);
        }
        SpanLinker x = withData(OP, 6, 12 * OP);
        runs(x, 2, 2);
        registers("the last word is inside", x, 0, 0, 3, RUNNING);
    }

    private void storeIntoText() {
        sentence("for 3, m is an address of text");
        for (int m = 0; m < 8; m++) {
            SpanLinker x = new SpanLinker();
            write(x, 1, s(NUMBER, OP), s(NUMBER, 3), s(NUMBER, 3 * OP), s(NUMBER, m), s(SECTION, DATA), s(NUMBER, 9));
            write(x, 0, s(NUMBER, 50), s(NUMBER, 51), s(SECTION, BSS), s(SPACE, 1));
            linkAndStart(x, -1, 1, 0);
            due("memory before", x.memory(m), new int[] {OP, 3, 3 * OP, m, 50, 51, 9, 0}[m]);
            runs(x, 2, m < 6 ? 1 : 2);
            registers("at " + m, x, 3, 0, m < 6 ? 2 : 4, m < 6 ? OUTSIDE : RUNNING);
            due("memory(" + m + ")", x.memory(m), new int[] {OP, 3, 3 * OP, m, 50, 51, 3, 3}[m]);
        }
        SpanLinker all = machineOf(3 * OP, 1);
        runs(all, 5, 0);
        registers("an image of text alone", all, 0, 0, 0, OUTSIDE);
        SpanLinker none = new SpanLinker();
        write(none, 0, s(SECTION, DATA), s(NUMBER, OP), s(NUMBER, 8), s(NUMBER, 3 * OP), s(NUMBER, 0), s(NUMBER, 0));
        linkAndStart(none, -1, 0);
        runs(none, 5, 3);
        registers("an image without text", none, 8, 0, 4, HALTED);
        due("memory(0)", none.memory(0), 8);
        SpanLinker common = new SpanLinker();
        write(common, 0, s(NUMBER, OP), s(NUMBER, 8), s(NUMBER, 3 * OP), s(ADDRESS, 1, 15), s(COMMON, 1, 16));
        linkAndStart(common, -1, 0);
        runs(common, 2, 2);
        due("the last word of a COMMON", common.memory(19), 8);
    }

    private void anyWordIsFine() {
        sentence("(For 1, 6 and 8 m may be any word.)");
        int[] values = {0, 2, 3, 200, 65535};
        for (int m : values) {
            SpanLinker x = machineOf(OP, m);
            runs(x, 1, 1);
            registers("1", x, m, 0, 2, RUNNING);
            SpanLinker y = machineOf(6 * OP, m);
            runs(y, 1, 1);
            registers("6", y, 0, 2, m, RUNNING);
            SpanLinker z = machineOf(8 * OP, m);
            runs(z, 1, 1);
            registers("8", z, 0, 0, m, RUNNING);
            SpanLinker stays = machineOf(8 * OP + 768, m);
            runs(stays, 1, 1);
            registers("8 that does not jump", stays, 0, 0, 2, RUNNING);
        }
    }

    private void outsideChangesNothing() {
        sentence("A step that is .. OUTSIDE changes nothing but that, and the machine stays in that state");
        int[][] ends = {{2 * OP, 60}, {3 * OP, 0}, {3 * OP, 60}, {4 * OP, 60}, {5 * OP, 60}, {12 * OP, 0}};
        for (int[] end : ends) {
            SpanLinker x = new SpanLinker();
            write(x, 0, s(NUMBER, 6 * OP), s(NUMBER, 2), s(NUMBER, 11 * OP), s(NUMBER, 10 * OP), s(NUMBER, end[0]),
                s(NUMBER, end[1]), s(SECTION, DATA), s(NUMBER, 5));
            linkAndStart(x, -1, 0);
            due("feed", x.feed(900), true);
            due("feed", x.feed(901), true);
            for (int round = 0; round < 3; round++) {
                runs(x, 1000, round == 0 ? 3 : 0);
                registers("outside by " + end[0], x, 900, 2, 4, OUTSIDE);
                due("put out", x.register(4), 1);
                due("the word", x.register(5), 900);
                int[] memory = {6 * OP, 2, 11 * OP, 10 * OP, end[0], end[1], 5, -1};
                for (int address = 0; address < 8; address++) {
                    due("memory(" + address + ")", x.memory(address), memory[address]);
                }
            }
        }
    }

    private void lowBitsThatDoNotMatter() {
        sentence("its operation is w / 4096, n is w % 4096: n counts for 8, 9 and 13 alone");
        int[] values = {0, 5, 65535};
        for (int a : values) {
            for (int n = 0; n < 4096; n = n * 2 + 1) {
                for (int condition = 0; condition < 4; condition++) {
                    lowBits(a, n ^ 256 * condition);
                }
            }
        }
    }

    private void lowBits(int a, int n) {
        String when = "A is " + a + ", n is " + n;
        SpanLinker x = withData(6 * OP + n, 4, n, 0, OP + n, a, 10 * OP + n, 3 * OP + n, 13, 7 * OP + n);
        runs(x, 6, 6);
        registers(when + ": call, load, put out, store, return, halt", x, a, 2, 2, HALTED);
        due(when + ": put out", x.register(5), a);
        due(when + ": stored", x.memory(13), a);
        SpanLinker y = withData(OP + n, 4, 12 * OP + n, 2 * OP + n, 10, 4 * OP + n, 11, 5 * OP + n, 10, 11 * OP + n);
        due(when + ": feed", y.feed(a), true);
        runs(y, 2, 2);
        registers(when + ": load at A", y, 10, 0, 3, RUNNING);
        runs(y, 1, 1);
        registers(when + ": load", y, 1000, 0, 5, RUNNING);
        runs(y, 1, 1);
        registers(when + ": add", y, 41000, 0, 7, RUNNING);
        runs(y, 1, 1);
        registers(when + ": subtract", y, 40000, 0, 9, RUNNING);
        runs(y, 1, 1);
        registers(when + ": take in", y, a, 0, 10, RUNNING);
        SpanLinker z = withData(OP, a, 14 * OP + n);
        runs(z, 2, 1);
        registers(when + ": illegal", z, a, 0, 2, ILLEGAL);
    }

    private void wordsThatAreWrittenAreRun() {
        sentence("A STEP takes the word w at PC: from the memory");
        SpanLinker x = new SpanLinker();
        // Text jumps to data, which writes 10 * 4096 (put out) over its own next word.
        write(x, 0, s(JUMP, 0, 0), s(SECTION, DATA), s(LABEL, 0), s(NUMBER, OP), s(NUMBER, 10 * OP), s(NUMBER, 3 * OP),
            s(ADDRESS, 1, 0), s(LABEL, 1), s(NUMBER, 65535), s(NUMBER, 0));
        linkAndStart(x, -1, 0);
        runs(x, 1000, 5);
        registers("written", x, 10 * OP, 0, 7, HALTED);
        due("put out", x.register(5), 10 * OP);
        due("the image is as it was", x.word(6), 65535);
        due("start", x.start(), true);
        due("memory as linked", x.memory(6), 65535);
    }
}
