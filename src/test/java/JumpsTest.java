/** Promise 5 (isLong), and what long and short jumps do to length and to the words. */
public final class JumpsTest {
    public static void main(String[] args) {
        Check c = new Check();
        forwardEdge(c);
        backwardEdge(c);
        namesThatMakeLong(c);
        chainOfLongJumps(c);
        shortAgain(c);
        wrongPlaces(c);
        wordsOfJumps(c);
        c.end();
    }

    private static void forwardEdge(Check c) {
        for (int gap = 1; gap <= 16; gap++) {
            SpanLinker x = new SpanLinker();
            c.write(x, 0, Check.s(Check.JUMP, 1, 2), Check.s(Check.SPACE, gap), Check.s(Check.LABEL, 1));
            boolean far = gap > 7;
            c.due("forward over " + gap, x.isLong(0, 0), far);
            c.due("its length", x.length(0, Check.TEXT), gap + (far ? 2 : 1));
            x.item(0);
            c.due("link", x.link(-1), 0);
            c.due("its word", x.word(0), far ? 8 * 4096 + 512 : 9 * 4096 + 512 + gap);
        }
    }

    private static void backwardEdge(Check c) {
        for (int gap = 1; gap <= 16; gap++) {
            SpanLinker x = new SpanLinker();
            c.write(x, 0, Check.s(Check.LABEL, 1), Check.s(Check.SPACE, gap), Check.s(Check.JUMP, 1, 3));
            boolean far = gap > 7;
            c.due("backward over " + gap, x.isLong(0, 2), far);
            c.due("its length", x.length(0, Check.TEXT), gap + (far ? 2 : 1));
            x.item(0);
            c.due("link", x.link(-1), 0);
            c.due("its word", x.word(gap), far ? 8 * 4096 + 768 : 9 * 4096 + 768 + 255 - gap);
        }
    }

    private static void namesThatMakeLong(Check c) {
        SpanLinker x = new SpanLinker();
        c.write(x, 1, Check.s(Check.LABEL, 6), Check.s(Check.GLOBAL, 6));
        c.write(x, 0, Check.s(Check.JUMP, 1, 0), Check.s(Check.JUMP, 2, 0), Check.s(Check.JUMP, 3, 0),
            Check.s(Check.JUMP, 4, 0), Check.s(Check.JUMP, 5, 0), Check.s(Check.JUMP, 6, 0),
            Check.s(Check.LABEL, 1), Check.s(Check.VALUE, 4, 0), Check.s(Check.COMMON, 5, 1),
            Check.s(Check.SECTION, Check.DATA), Check.s(Check.LABEL, 2), Check.s(Check.SECTION, Check.BSS),
            Check.s(Check.LABEL, 3));
        c.due("a label in bss", x.isLong(0, 2), true);
        c.due("a label in data", x.isLong(0, 1), true);
        c.due("a VALUE", x.isLong(0, 3), true);
        c.due("a COMMON", x.isLong(0, 4), true);
        c.due("another module's label", x.isLong(0, 5), true);
        c.due("far, since the others are long", x.isLong(0, 0), true);
        c.due("length", x.length(0, Check.TEXT), 12);
        c.due("a label is no jump", x.isLong(0, 6), false);
        SpanLinker y = new SpanLinker();
        c.write(y, 0, Check.s(Check.JUMP, 1, 0), Check.s(Check.LABEL, 1), Check.s(Check.JUMP, 1, 0));
        c.due("the next word", y.isLong(0, 0), false);
        c.due("itself", y.isLong(0, 2), false);
    }

    /** One jump that becomes long pushes the next one's label out of reach, and so on to the first. */
    private static void chainOfLongJumps(Check c) {
        SpanLinker x = new SpanLinker();
        c.write(x, 0, Check.s(Check.JUMP, 0, 0), Check.s(Check.SPACE, 5), Check.s(Check.JUMP, 1, 0),
            Check.s(Check.SPACE, 1), Check.s(Check.LABEL, 0), Check.s(Check.SPACE, 4),
            Check.s(Check.JUMP, 2, 0), Check.s(Check.SPACE, 1), Check.s(Check.LABEL, 1),
            Check.s(Check.SPACE, 6), Check.s(Check.LABEL, 2));
        c.due("at the edge 0", x.isLong(0, 0), false);
        c.due("at the edge 1", x.isLong(0, 2), false);
        c.due("at the edge 2", x.isLong(0, 6), false);
        c.due("length", x.length(0, Check.TEXT), 20);
        x.clear(0);
        c.write(x, 0, Check.s(Check.JUMP, 0, 0), Check.s(Check.SPACE, 5), Check.s(Check.JUMP, 1, 0),
            Check.s(Check.SPACE, 1), Check.s(Check.LABEL, 0), Check.s(Check.SPACE, 4),
            Check.s(Check.JUMP, 2, 0), Check.s(Check.SPACE, 1), Check.s(Check.LABEL, 1),
            Check.s(Check.SPACE, 7), Check.s(Check.LABEL, 2));
        c.due("pushed 2", x.isLong(0, 6), true);
        c.due("pushed 1", x.isLong(0, 2), true);
        c.due("pushed 0", x.isLong(0, 0), true);
        c.due("length", x.length(0, Check.TEXT), 24);
    }

    private static void shortAgain(Check c) {
        SpanLinker x = new SpanLinker();
        c.write(x, 0, Check.s(Check.LABEL, 1), Check.s(Check.JUMP, 2, 0), Check.s(Check.SPACE, 6),
            Check.s(Check.JUMP, 1, 0));
        c.due("an unknown name is long", x.isLong(0, 1), true);
        c.due("far behind it", x.isLong(0, 3), true);
        c.write(x, 0, Check.s(Check.LABEL, 2));
        c.due("the label came", x.isLong(0, 1), false);
        c.due("near behind it", x.isLong(0, 3), false);
        c.due("length", x.length(0, Check.TEXT), 8);
        x.clear(0);
        c.write(x, 0, Check.s(Check.NUMBER, 1), Check.s(Check.NUMBER, 1));
        c.due("no trace of a jump", x.isLong(0, 1), false);
    }

    private static void wrongPlaces(Check c) {
        SpanLinker x = new SpanLinker();
        c.write(x, 0, Check.s(Check.JUMP, 1, 0));
        c.due("isLong(0, 0)", x.isLong(0, 0), true);
        int[] wrong = {-1, 1, 19, 20, Integer.MIN_VALUE, Integer.MAX_VALUE};
        for (int k : wrong) {
            c.due("isLong(0, " + k + ")", x.isLong(0, k), false);
        }
        int[] noModules = {-1, 6, Integer.MIN_VALUE, Integer.MAX_VALUE};
        for (int module : noModules) {
            c.due("isLong(" + module + ", 0)", x.isLong(module, 0), false);
        }
    }

    private static void wordsOfJumps(Check c) {
        SpanLinker x = new SpanLinker();
        c.write(x, 0, Check.s(Check.SPACE, 3));
        c.write(x, 1, Check.s(Check.LABEL, 1), Check.s(Check.JUMP, 1, 1), Check.s(Check.JUMP, 2, 3),
            Check.s(Check.JUMP, 3, 2), Check.s(Check.JUMP, 4, 0), Check.s(Check.LABEL, 3),
            Check.s(Check.SECTION, Check.DATA), Check.s(Check.NUMBER, 1), Check.s(Check.LABEL, 2),
            Check.s(Check.VALUE, 4, 65535));
        x.item(0);
        x.item(1);
        c.due("link", x.link(-1), 0);
        c.due("backward to itself", x.word(3), 9 * 4096 + 256 + 255);
        c.due("to data", x.word(4), 8 * 4096 + 768);
        c.due("the address in data", x.word(5), 10);
        c.due("forward", x.word(6), 9 * 4096 + 512 + 2);
        c.due("to a VALUE", x.word(7), 8 * 4096);
        c.due("the VALUE", x.word(8), 65535);
        c.due("behind", x.word(9), 1);
    }
}
