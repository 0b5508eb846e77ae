/** The edges of jumps: what the Terms say of LONG and SHORT, and promise 5 (isLong). */
public final class JumpEdgesTest extends Check {
    public static void main(String[] args) {
        JumpEdgesTest t = new JumpEdgesTest();
        t.forward();
        t.backward();
        t.nearest();
        t.otherSectionsDoNotCount();
        t.namesWithoutLabelInText();
        t.labelsThatAreGlobalToo();
        t.laterStatements();
        t.pushedForward();
        t.pushedBackward();
        t.notPushed();
        t.orderDoesNotMatter();
        t.fullOfJumps();
        t.shortWords();
        t.longWords();
        t.noJump();
        t.noSuchStatement();
        t.noSuchModule();
        t.end();
    }

    private void jump(String when, SpanLinker x, int k, boolean isLong) {
        due(when + ": isLong(0, " + k + ")", x.isLong(0, k), isLong);
    }

    /** So many words (at most 16) made of one kind of statement: how many statements that took. */
    private int fill(SpanLinker x, int words, int kind) {
        if (kind == SPACE) {
            write(x, 0, s(SPACE, words));
            return 1;
        }
        for (int k = 0; k < words; k++) {
            write(x, 0, s(kind, 9));
        }
        return words;
    }

    private void forward() {
        sentence("DISTANCE (the place of its label, less its own, less 1) is not -8 .. 7: forward");
        int[] kinds = {NUMBER, ADDRESS, SPACE};
        for (int kind : kinds) {
            for (int distance = 5; distance <= 10; distance++) {
                SpanLinker x = new SpanLinker();
                write(x, 0, s(JUMP, 1, 0));
                fill(x, distance, kind);
                write(x, 0, s(LABEL, 1));
                boolean far = distance > 7;
                due("distance " + distance, x.isLong(0, 0), far);
                due("text", x.length(0, TEXT), distance + (far ? 2 : 1));
            }
        }
        SpanLinker x = new SpanLinker();
        write(x, 0, s(JUMP, 1, 0), s(JUMP, 9, 0), s(JUMP, 9, 0), s(JUMP, 9, 0), s(NUMBER, 1), s(LABEL, 1));
        jump("over three long jumps and a word", x, 0, false);
        x.clear(0);
        write(x, 0, s(JUMP, 1, 0), s(JUMP, 9, 0), s(JUMP, 9, 0), s(JUMP, 9, 0), s(JUMP, 9, 0), s(LABEL, 1));
        jump("over four long jumps", x, 0, true);
    }

    private void backward() {
        sentence("DISTANCE (the place of its label, less its own, less 1) is not -8 .. 7: backward");
        int[] kinds = {NUMBER, ADDRESS, SPACE};
        for (int kind : kinds) {
            for (int distance = -11; distance <= -6; distance++) {
                int words = -1 - distance;
                SpanLinker x = new SpanLinker();
                write(x, 0, s(LABEL, 1));
                int between = fill(x, words, kind);
                write(x, 0, s(JUMP, 1, 0));
                boolean far = distance < -8;
                due("distance " + distance, x.isLong(0, between + 1), far);
                due("text", x.length(0, TEXT), words + (far ? 2 : 1));
            }
        }
        SpanLinker x = new SpanLinker();
        write(x, 0, s(LABEL, 1), s(JUMP, 9, 0), s(JUMP, 9, 0), s(JUMP, 9, 0), s(NUMBER, 1), s(JUMP, 1, 0));
        jump("over three long jumps and a word", x, 5, false);
        x.clear(0);
        write(x, 0, s(LABEL, 1), s(JUMP, 9, 0), s(JUMP, 9, 0), s(JUMP, 9, 0), s(JUMP, 9, 0), s(JUMP, 1, 0));
        jump("over four long jumps", x, 5, true);
    }

    private void nearest() {
        sentence("the place of its label, less its own, less 1: the nearest labels");
        SpanLinker x = new SpanLinker();
        write(x, 0, s(LABEL, 0), s(JUMP, 0, 0), s(JUMP, 1, 0), s(LABEL, 1));
        jump("to itself", x, 1, false);
        jump("to the next word", x, 2, false);
        due("text", x.length(0, TEXT), 2);
        items(x, 0);
        due("link", x.link(-1), 0);
        words("-1 and 0", x, 9 * 4096 + 255, 9 * 4096);
    }

    private void otherSectionsDoNotCount() {
        sentence("which moves what lies behind it in text");
        SpanLinker x = new SpanLinker();
        write(x, 0, s(LABEL, 0), s(JUMP, 1, 0), s(SECTION, DATA), s(SPACE, 16), s(SECTION, BSS), s(SPACE, 16),
            s(SECTION, TEXT), s(SPACE, 6), s(JUMP, 0, 0), s(LABEL, 1));
        jump("forward over data and bss", x, 1, false);
        jump("backward over data and bss", x, 8, false);
        due("text", x.length(0, TEXT), 8);
        x.clear(0);
        write(x, 0, s(LABEL, 0), s(JUMP, 2, 0), s(SPACE, 16), s(SECTION, DATA), s(NUMBER, 1), s(LABEL, 3),
            s(GLOBAL, 3), s(SECTION, TEXT), s(LABEL, 2));
        jump("long", x, 1, true);
        items(x, 0);
        due("link", x.link(-1), 0);
        due("a place in data is not moved", x.symbol(3), 19);
        due("what lies behind in text is moved", x.word(1), 18);
    }

    private void namesWithoutLabelInText() {
        sentence("It is long when its name is not defined by a LABEL in text of the same module");
        int[][][] others = {
            {}, {s(VALUE, 1, 0)}, {s(COMMON, 1, 1)}, {s(GLOBAL, 1)}, {s(LABEL, 2)},
            {s(SECTION, DATA), s(LABEL, 1)}, {s(SECTION, BSS), s(LABEL, 1)},
        };
        for (int[][] other : others) {
            SpanLinker x = new SpanLinker();
            write(x, 0, s(JUMP, 1, 0));
            write(x, 0, other);
            write(x, 1, s(LABEL, 1), s(GLOBAL, 1));
            jump("forward", x, 0, true);
            due("text", x.length(0, TEXT), 2);
            x.clear(0);
            write(x, 0, other);
            write(x, 0, s(SECTION, TEXT), s(JUMP, 1, 0));
            jump("backward", x, other.length + 1, true);
        }
    }

    private void labelsThatAreGlobalToo() {
        sentence("defined by a LABEL in text of the same module: a global one, and one of other modules too");
        SpanLinker x = new SpanLinker();
        write(x, 0, s(JUMP, 1, 0), s(GLOBAL, 1), s(LABEL, 1), s(JUMP, 1, 0), s(JUMP, 2, 0), s(LABEL, 2));
        write(x, 1, s(VALUE, 2, 99), s(GLOBAL, 2), s(COMMON, 1, 3), s(JUMP, 2, 0));
        jump("forward", x, 0, false);
        jump("backward", x, 3, false);
        jump("a name that another module exports", x, 4, false);
        items(x, 1, 0);
        due("link", x.link(-1), 0);
        words("its own labels", x, 8 * 4096, 99, 9 * 4096, 9 * 4096 + 255, 9 * 4096);
    }

    private void laterStatements() {
        sentence("The others are all short at first");
        SpanLinker x = new SpanLinker();
        write(x, 0, s(LABEL, 0), s(JUMP, 1, 0), s(JUMP, 1, 0), s(JUMP, 1, 0), s(SPACE, 4), s(JUMP, 0, 0));
        jump("without a label", x, 1, true);
        jump("pushed by the three", x, 5, true);
        due("text", x.length(0, TEXT), 12);
        write(x, 0, s(SECTION, DATA), s(NUMBER, 1), s(SECTION, TEXT));
        jump("other statements change nothing", x, 1, true);
        write(x, 0, s(LABEL, 1));
        for (int k = 1; k <= 5; k++) {
            jump("the label came", x, k, false);
        }
        due("text", x.length(0, TEXT), 8);
        write(x, 0, s(SPACE, 16), s(JUMP, 1, 0));
        for (int k = 1; k <= 5; k++) {
            jump("what comes behind changes nothing", x, k, false);
        }
        jump("the last", x, 11, true);
    }

    /** Each jump reaches over the next one and not further; the last one's label lies apart. */
    private void forwardChain(SpanLinker x, int gapOfTheLast) {
        x.clear(0);
        write(x, 0, s(JUMP, 0), s(SPACE, 6));
        for (int name = 1; name < 6; name++) {
            write(x, 0, s(JUMP, name), s(LABEL, name - 1), s(SPACE, name < 5 ? 6 : gapOfTheLast));
        }
        write(x, 0, s(LABEL, 5));
    }

    private void pushedForward() {
        sentence("as long as some short one's DISTANCE .. is not -8 .. 7, it becomes long: forward, six in a row");
        SpanLinker x = new SpanLinker();
        forwardChain(x, 7);
        jump("at the edge", x, 0, false);
        for (int name = 1; name < 6; name++) {
            jump("at the edge", x, 3 * name - 1, false);
        }
        due("text", x.length(0, TEXT), 6 + 5 * 6 + 7);
        forwardChain(x, 8);
        jump("pushed", x, 0, true);
        for (int name = 1; name < 6; name++) {
            jump("pushed", x, 3 * name - 1, true);
        }
        due("text", x.length(0, TEXT), 12 + 5 * 6 + 8);
    }

    /** The same turned round: each jump reaches back over the one before it. */
    private void backwardChain(SpanLinker x, int gapOfTheFirst) {
        x.clear(0);
        write(x, 0, s(LABEL, 0), s(SPACE, gapOfTheFirst));
        for (int name = 1; name < 6; name++) {
            write(x, 0, s(LABEL, name), s(JUMP, name - 1), s(SPACE, 6));
        }
        write(x, 0, s(JUMP, 5));
    }

    private void pushedBackward() {
        sentence("as long as some short one's DISTANCE .. is not -8 .. 7, it becomes long: backward, six in a row");
        SpanLinker x = new SpanLinker();
        backwardChain(x, 7);
        for (int name = 1; name < 6; name++) {
            jump("at the edge", x, 3 * name, false);
        }
        jump("at the edge", x, 17, false);
        due("text", x.length(0, TEXT), 6 + 5 * 6 + 7);
        backwardChain(x, 8);
        for (int name = 1; name < 6; name++) {
            jump("pushed", x, 3 * name, true);
        }
        jump("pushed", x, 17, true);
        due("text", x.length(0, TEXT), 12 + 5 * 6 + 8);
    }

    private void notPushed() {
        sentence("it becomes long, which moves what lies behind it in text: and nothing else");
        SpanLinker x = new SpanLinker();
        write(x, 0, s(LABEL, 0), s(JUMP, 1, 0), s(SPACE, 6), s(JUMP, 0, 0), s(LABEL, 1), s(JUMP, 2, 0), s(SPACE, 8),
            s(LABEL, 2), s(LABEL, 3), s(JUMP, 4, 0), s(SPACE, 6), s(JUMP, 3, 0), s(LABEL, 4));
        jump("in front of the long one, forward", x, 1, false);
        jump("in front of the long one, backward", x, 3, false);
        jump("the long one", x, 5, true);
        jump("behind the long one, forward", x, 9, false);
        jump("behind the long one, backward", x, 11, false);
        due("text", x.length(0, TEXT), 8 + 10 + 8);
    }

    private void orderDoesNotMatter() {
        sentence("no matter which one first, the same are long in the end");
        SpanLinker x = new SpanLinker();
        write(x, 0, s(JUMP, 0), s(JUMP, 1), s(SPACE, 6), s(LABEL, 0), s(JUMP, 2), s(LABEL, 1), s(SPACE, 8), s(LABEL, 2));
        jump("pushed by the second", x, 0, true);
        jump("pushed by the third", x, 1, true);
        jump("far", x, 4, true);
        due("text", x.length(0, TEXT), 20);
        x.clear(0);
        write(x, 0, s(LABEL, 2), s(SPACE, 8), s(LABEL, 1), s(JUMP, 2), s(LABEL, 0), s(SPACE, 6), s(JUMP, 1), s(JUMP, 0));
        jump("far", x, 3, true);
        jump("pushed by the first", x, 6, true);
        jump("pushed by the second", x, 7, true);
        due("text", x.length(0, TEXT), 20);
    }

    private void fullOfJumps() {
        sentence("A JUMP is LONG (two words) or SHORT (one): a module full of them");
        SpanLinker x = new SpanLinker();
        write(x, 0, s(LABEL, 1));
        for (int k = 1; k < 20; k++) {
            write(x, 0, s(JUMP, 1, k % 4));
        }
        for (int k = 1; k < 20; k++) {
            jump("back to one label", x, k, k > 8);
        }
        due("text", x.length(0, TEXT), 8 + 11 * 2);
        x.clear(0);
        for (int k = 0; k < 19; k++) {
            write(x, 0, s(JUMP, 1, k % 4));
        }
        write(x, 0, s(LABEL, 1));
        for (int k = 0; k < 19; k++) {
            jump("on to one label", x, k, k < 11);
        }
        due("text", x.length(0, TEXT), 8 + 11 * 2);
        x.clear(0);
        for (int k = 0; k < 20; k++) {
            write(x, 0, s(JUMP, 1, k % 4));
            jump("to no label", x, k, true);
        }
        due("text", x.length(0, TEXT), 40);
    }

    private void shortWords() {
        sentence("A short jump is the word 9 * 4096 + 256 * condition + (distance & 255)");
        for (int condition = 0; condition < 4; condition++) {
            SpanLinker x = new SpanLinker();
            write(x, 0, s(JUMP, 1, condition), s(JUMP, 1, condition), s(SPACE, 6), s(LABEL, 1), s(SPACE, 7),
                s(JUMP, 1, condition));
            write(x, 1, s(LABEL, 1), s(JUMP, 1, condition), s(JUMP, 2, condition), s(LABEL, 2));
            items(x, 0, 1);
            due("link", x.link(-1), 0);
            int w = 9 * 4096 + 256 * condition;
            due("7", x.word(0), w + 7);
            due("6", x.word(1), w + 6);
            due("-8", x.word(15), w + 248);
            due("-1", x.word(16), w + 255);
            due("0", x.word(17), w);
        }
    }

    private void longWords() {
        sentence("a long one the words 8 * 4096 + 256 * condition, and what its name stands for");
        for (int condition = 0; condition < 4; condition++) {
            SpanLinker x = new SpanLinker();
            write(x, 0, s(NUMBER, 1), s(LABEL, 1));
            write(x, 1, s(JUMP, 1, condition), s(SPACE, 8), s(LABEL, 1), s(JUMP, 2, condition), s(VALUE, 2, 65535),
                s(JUMP, 3, condition), s(JUMP, 4, condition), s(SECTION, BSS), s(LABEL, 4));
            write(x, 2, s(COMMON, 3, 1));
            items(x, 0, 1, 2);
            due("link", x.link(-1), 0);
            int w = 8 * 4096 + 256 * condition;
            due("far in its own text", x.word(1), w);
            due("the address", x.word(2), 11);
            due("to a VALUE", x.word(11), w);
            due("the word", x.word(12), 65535);
            due("to a COMMON", x.word(13), w);
            due("its first address", x.word(14), 17);
            due("to bss", x.word(15), w);
            due("the end of the image", x.word(16), 17);
        }
    }

    private void noJump() {
        sentence("Whether statement k (from 0) of the module is a JUMP that is long");
        for (int kind = 0; kind < 9; kind++) {
            SpanLinker x = new SpanLinker();
            write(x, 0, s(JUMP, 9, 0), s(kind, 1, 1), s(SECTION, TEXT), s(JUMP, 9, 0));
            jump("the first", x, 0, true);
            jump("kind " + kind, x, 1, kind == JUMP);
            jump("between", x, 2, false);
            jump("the last", x, 3, true);
            x.clear(0);
            write(x, 0, s(kind, 1, 1));
            jump("where a long jump was", x, 0, kind == JUMP);
        }
    }

    private void noSuchStatement() {
        sentence("(False when there is no such .. statement.)");
        SpanLinker x = new SpanLinker();
        for (int count = 0; count <= 20; count++) {
            for (int k : beside(0, count - 1)) {
                jump(count + " jumps", x, k, false);
            }
            if (count < 20) {
                write(x, 0, s(JUMP, 9, 0));
                jump("the last", x, count, true);
            }
        }
        x.clear(0);
        for (int k = 0; k < 20; k++) {
            jump("cleared", x, k, false);
        }
    }

    private void noSuchModule() {
        sentence("(False when there is no such module ..)");
        SpanLinker x = new SpanLinker();
        for (int module = 0; module < 6; module++) {
            write(x, module, s(JUMP, 9, 0));
            due("isLong(" + module + ", 0)", x.isLong(module, 0), true);
        }
        for (int module : beside(0, 5)) {
            due("isLong(" + module + ", 0)", x.isLong(module, 0), false);
        }
    }
}
