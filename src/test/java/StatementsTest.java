/** Promises 2 (add), 3 (clear) and 4 (length). */
public final class StatementsTest {
    public static void main(String[] args) {
        Check c = new Check();
        numbersOfEachKind(c);
        unseenSecondNumber(c);
        modulesAndKinds(c);
        sectionsOfKinds(c);
        namesHeldOnce(c);
        twentyStatements(c);
        refusalsChangeNothing(c);
        clearing(c);
        lengths(c);
        c.end();
    }

    private static void taken(Check c, boolean want, int kind, int a, int b) {
        SpanLinker x = new SpanLinker();
        c.due("add(0, " + kind + ", " + a + ", " + b + ")", x.add(0, kind, a, b), want);
        c.due("clear after it", x.clear(0), want ? 1 : 0);
    }

    /** The first number is taken from least to most and refused beside them. */
    private static void firstNumber(Check c, int kind, int least, int most, int b) {
        taken(c, true, kind, least, b);
        taken(c, true, kind, most, b);
        taken(c, false, kind, least - 1, b);
        taken(c, false, kind, most + 1, b);
        taken(c, false, kind, Integer.MIN_VALUE, b);
        taken(c, false, kind, Integer.MAX_VALUE, b);
    }

    private static void secondNumber(Check c, int kind, int least, int most) {
        taken(c, true, kind, 3, least);
        taken(c, true, kind, 3, most);
        taken(c, false, kind, 3, least - 1);
        taken(c, false, kind, 3, most + 1);
        taken(c, false, kind, 3, Integer.MIN_VALUE);
        taken(c, false, kind, 3, Integer.MAX_VALUE);
    }

    private static void numbersOfEachKind(Check c) {
        firstNumber(c, Check.LABEL, 0, 15, 0);
        firstNumber(c, Check.GLOBAL, 0, 15, 0);
        firstNumber(c, Check.SECTION, 0, 2, 0);
        firstNumber(c, Check.NUMBER, 0, 65535, 0);
        firstNumber(c, Check.ADDRESS, 0, 15, 0);
        firstNumber(c, Check.SPACE, 1, 16, 0);
        firstNumber(c, Check.JUMP, 0, 15, 0);
        firstNumber(c, Check.COMMON, 0, 15, 1);
        firstNumber(c, Check.VALUE, 0, 15, 0);
        secondNumber(c, Check.ADDRESS, -32768, 32767);
        secondNumber(c, Check.JUMP, 0, 3);
        secondNumber(c, Check.COMMON, 1, 16);
        secondNumber(c, Check.VALUE, 0, 65535);
    }

    private static void unseenSecondNumber(Check c) {
        int[] unseeing = {Check.LABEL, Check.GLOBAL, Check.SECTION, Check.NUMBER, Check.SPACE};
        for (int kind : unseeing) {
            taken(c, true, kind, 1, Integer.MIN_VALUE);
            taken(c, true, kind, 1, Integer.MAX_VALUE);
        }
    }

    private static void modulesAndKinds(Check c) {
        SpanLinker x = new SpanLinker();
        for (int module = 0; module < 6; module++) {
            c.due("add to " + module, x.add(module, Check.NUMBER, module, 0), true);
        }
        int[] noModules = {-1, 6, 7, Integer.MIN_VALUE, Integer.MAX_VALUE};
        for (int module : noModules) {
            c.due("add to " + module, x.add(module, Check.NUMBER, 1, 0), false);
        }
        int[] noKinds = {-1, 9, 10, Integer.MIN_VALUE, Integer.MAX_VALUE};
        for (int kind : noKinds) {
            c.due("kind " + kind, x.add(0, kind, 1, 1), false);
        }
    }

    /** Row: section; columns: whether each of the nine kinds may stand there. */
    private static void sectionsOfKinds(Check c) {
        boolean[][] may = {
            {true, true, true, true, true, true, true, true, true},
            {true, true, true, true, true, true, false, true, true},
            {true, true, true, false, false, true, false, true, true},
        };
        for (int section = 0; section < 3; section++) {
            for (int kind = 0; kind < 9; kind++) {
                SpanLinker x = new SpanLinker();
                c.write(x, 0, Check.s(Check.SECTION, section));
                c.due("kind " + kind + " in section " + section, x.add(0, kind, 1, 1), may[section][kind]);
            }
        }
        SpanLinker x = new SpanLinker();
        c.write(x, 1, Check.s(Check.SECTION, Check.BSS));
        c.due("another module is in text", x.add(0, Check.JUMP, 1, 0), true);
        c.write(x, 1, Check.s(Check.LABEL, 1), Check.s(Check.SPACE, 1));
        c.due("the section lasts", x.add(1, Check.NUMBER, 1, 0), false);
        c.write(x, 1, Check.s(Check.SECTION, Check.TEXT));
        c.due("the section can be left", x.add(1, Check.JUMP, 1, 0), true);
    }

    private static void namesHeldOnce(Check c) {
        int[] holders = {Check.LABEL, Check.VALUE, Check.COMMON};
        for (int first : holders) {
            for (int second : holders) {
                SpanLinker x = new SpanLinker();
                c.write(x, 0, Check.s(first, 7, 1));
                c.due(second + " after " + first, x.add(0, second, 7, 1), false);
                c.due("another name", x.add(0, second, 8, 1), true);
                c.due("another module", x.add(1, second, 7, 1), true);
                c.write(x, 0, Check.s(Check.GLOBAL, 7), Check.s(Check.GLOBAL, 7),
                    Check.s(Check.ADDRESS, 7), Check.s(Check.JUMP, 7));
                c.due("clear", x.clear(0), 6);
                c.due("the name is free again", x.add(0, second, 7, 1), true);
            }
        }
    }

    private static void twentyStatements(Check c) {
        SpanLinker x = new SpanLinker();
        for (int k = 0; k < 20; k++) {
            c.due("statement " + k, x.add(3, Check.GLOBAL, 1, 0), true);
        }
        c.due("the 21st", x.add(3, Check.GLOBAL, 1, 0), false);
        c.due("another module", x.add(4, Check.GLOBAL, 1, 0), true);
        c.due("clear", x.clear(3), 20);
        c.due("after clear", x.add(3, Check.GLOBAL, 1, 0), true);
    }

    private static void refusalsChangeNothing(Check c) {
        SpanLinker x = new SpanLinker();
        c.write(x, 0, Check.s(Check.NUMBER, 5));
        x.add(0, Check.SECTION, 3, 0);
        x.add(0, Check.LABEL, 16, 0);
        x.add(0, Check.VALUE, 2, 65536);
        x.add(0, Check.COMMON, 2, 17);
        x.add(0, Check.ADDRESS, 2, 32768);
        c.due("length", x.length(0, Check.TEXT), 1);
        c.due("still in text", x.add(0, Check.JUMP, 0, 0), true);
        c.due("the name is still free", x.add(0, Check.LABEL, 2, 0), true);
        x.add(0, Check.VALUE, 2, 9);
        c.due("how many", x.clear(0), 3);
        c.write(x, 0, Check.s(Check.NUMBER, 1), Check.s(Check.SECTION, Check.DATA));
        x.add(0, Check.JUMP, 9, 0);
        x.item(0);
        c.due("a refused JUMP refers to nothing", x.link(-1), 0);
    }

    private static void clearing(Check c) {
        SpanLinker x = new SpanLinker();
        int[] noModules = {-1, 6, Integer.MIN_VALUE, Integer.MAX_VALUE};
        for (int module : noModules) {
            c.due("clear(" + module + ")", x.clear(module), -1);
        }
        c.write(x, 1, Check.s(Check.NUMBER, 8));
        c.write(x, 0, Check.s(Check.JUMP, 1, 0), Check.s(Check.SECTION, Check.BSS), Check.s(Check.SPACE, 3),
            Check.s(Check.GLOBAL, 4), Check.s(Check.COMMON, 5, 2), Check.s(Check.VALUE, 6, 1));
        x.item(0);
        x.store(1, -1);
        c.due("clear(0)", x.clear(0), 6);
        c.due("clear(0) again", x.clear(0), 0);
        c.due("isLong", x.isLong(0, 0), false);
        c.due("length text", x.length(0, Check.TEXT), 0);
        c.due("length bss", x.length(0, Check.BSS), 0);
        c.due("the other keeps its own", x.length(1, Check.TEXT), 1);
        c.due("begins in text", x.add(0, Check.NUMBER, 3, 0), true);
        c.due("length of the new text", x.length(0, Check.TEXT), 1);
        c.due("stays on the line", x.item(0), false);
        c.due("clear(1)", x.clear(1), 1);
        c.due("stays in the archive", x.member(0), 1);
        c.due("no names are left over", x.link(-1), 0);
        c.due("no COMMON is left over", x.size(Check.BSS), 0);
        c.due("the old image", x.word(0), 3);
        x.clear(0);
        c.due("the image is not touched", x.word(0), 3);
    }

    private static void lengths(Check c) {
        SpanLinker x = new SpanLinker();
        c.write(x, 2, Check.s(Check.LABEL, 0), Check.s(Check.NUMBER, 5), Check.s(Check.ADDRESS, 3, 2),
            Check.s(Check.SPACE, 16), Check.s(Check.JUMP, 9, 0), Check.s(Check.COMMON, 4, 16),
            Check.s(Check.VALUE, 5, 1), Check.s(Check.GLOBAL, 6),
            Check.s(Check.SECTION, Check.DATA), Check.s(Check.NUMBER, 5), Check.s(Check.ADDRESS, 3, 2),
            Check.s(Check.SPACE, 1),
            Check.s(Check.SECTION, Check.BSS), Check.s(Check.SPACE, 9), Check.s(Check.LABEL, 7),
            Check.s(Check.SECTION, Check.TEXT), Check.s(Check.NUMBER, 1), Check.s(Check.JUMP, 0, 0));
        c.due("text", x.length(2, Check.TEXT), 1 + 1 + 16 + 2 + 1 + 2);
        c.due("data", x.length(2, Check.DATA), 3);
        c.due("bss", x.length(2, Check.BSS), 9);
        int[] wrong = {-1, 3, Integer.MIN_VALUE, Integer.MAX_VALUE};
        for (int section : wrong) {
            c.due("length(2, " + section + ")", x.length(2, section), -1);
        }
        c.due("length(-1, 0)", x.length(-1, 0), -1);
        c.due("length(6, 0)", x.length(6, 0), -1);
        c.due("length(MAX, 0)", x.length(Integer.MAX_VALUE, 0), -1);
        SpanLinker y = new SpanLinker();
        for (int k = 0; k < 20; k++) {
            c.write(y, 5, Check.s(Check.SPACE, 16));
        }
        c.due("the longest text", y.length(5, Check.TEXT), 320);
    }
}
