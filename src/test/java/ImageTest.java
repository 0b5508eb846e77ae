/** Promises 14 (size), 15 (word), 16 (symbol) and 17 (strip). */
public final class ImageTest {
    public static void main(String[] args) {
        Check c = new Check();
        layout(c);
        orderOfInclusion(c);
        commons(c);
        commonThatIsExported(c);
        whatNamesStandFor(c);
        addressArithmetic(c);
        wrongArguments(c);
        imageIsKept(c);
        nothingIsLeftOver(c);
        stripping(c);
        c.end();
    }

    private static void layout(Check c) {
        SpanLinker x = new SpanLinker();
        c.write(x, 0, Check.s(Check.SECTION, Check.BSS), Check.s(Check.LABEL, 0), Check.s(Check.GLOBAL, 0),
            Check.s(Check.SPACE, 2), Check.s(Check.SECTION, Check.TEXT), Check.s(Check.NUMBER, 11),
            Check.s(Check.SECTION, Check.DATA), Check.s(Check.NUMBER, 12), Check.s(Check.LABEL, 1),
            Check.s(Check.GLOBAL, 1), Check.s(Check.NUMBER, 13), Check.s(Check.SECTION, Check.TEXT),
            Check.s(Check.LABEL, 2), Check.s(Check.GLOBAL, 2), Check.s(Check.NUMBER, 14));
        c.write(x, 1, Check.s(Check.NUMBER, 21), Check.s(Check.SPACE, 2), Check.s(Check.LABEL, 3),
            Check.s(Check.SECTION, Check.DATA), Check.s(Check.SPACE, 1), Check.s(Check.LABEL, 4),
            Check.s(Check.NUMBER, 22), Check.s(Check.SECTION, Check.BSS), Check.s(Check.SPACE, 1),
            Check.s(Check.LABEL, 5), Check.s(Check.SPACE, 3), Check.s(Check.GLOBAL, 3),
            Check.s(Check.GLOBAL, 4), Check.s(Check.GLOBAL, 5), Check.s(Check.COMMON, 6, 4));
        x.item(0);
        x.item(1);
        c.due("link", x.link(-1), 0);
        c.words("layout", x, 11, 14, 21, 0, 0, 12, 13, 0, 22, 0, 0, 0, 0, 0, 0, 0, 0, 0, 0);
        c.due("size(0)", x.size(0), 5);
        c.due("size(1)", x.size(1), 4);
        c.due("size(2)", x.size(2), 10);
        int[] symbols = {9, 6, 1, 5, 8, 12, 15, -1};
        for (int name = 0; name < symbols.length; name++) {
            c.due("symbol(" + name + ")", x.symbol(name), symbols[name]);
        }
    }

    private static void orderOfInclusion(Check c) {
        SpanLinker x = new SpanLinker();
        for (int module = 0; module < 3; module++) {
            c.write(x, module, Check.s(Check.LABEL, module), Check.s(Check.GLOBAL, module),
                Check.s(Check.NUMBER, 100 + module), Check.s(Check.SECTION, Check.DATA),
                Check.s(Check.NUMBER, 200 + module));
        }
        c.write(x, 2, Check.s(Check.ADDRESS, 0, 0));
        x.store(0, -1);
        x.item(2);
        x.item(Check.ARCHIVE);
        x.item(1);
        c.due("link", x.link(-1), 0);
        c.words("2, 0, 1", x, 102, 100, 101, 202, 1, 200, 201);
        c.due("symbol(0)", x.symbol(0), 1);
        c.due("symbol(1)", x.symbol(1), 2);
        c.due("symbol(2)", x.symbol(2), 0);
    }

    private static void commons(Check c) {
        SpanLinker x = new SpanLinker();
        c.write(x, 0, Check.s(Check.COMMON, 15, 1), Check.s(Check.COMMON, 3, 16), Check.s(Check.ADDRESS, 3, 1),
            Check.s(Check.COMMON, 0, 2));
        c.write(x, 1, Check.s(Check.COMMON, 15, 7), Check.s(Check.COMMON, 3, 2), Check.s(Check.ADDRESS, 0, 0),
            Check.s(Check.ADDRESS, 15, 0), Check.s(Check.SECTION, Check.BSS), Check.s(Check.SPACE, 1));
        c.write(x, 2, Check.s(Check.COMMON, 5, 9), Check.s(Check.COMMON, 15, 16));
        x.item(0);
        x.item(1);
        c.due("link", x.link(-1), 0);
        c.due("symbol(0)", x.symbol(0), 4);
        c.due("symbol(3)", x.symbol(3), 6);
        c.due("symbol(15)", x.symbol(15), 22);
        c.due("what is not included has no COMMON", x.symbol(5), -1);
        c.due("size(0)", x.size(0), 3);
        c.due("size(1)", x.size(1), 0);
        c.due("size(2)", x.size(2), 1 + 2 + 16 + 7);
        c.due("ADDRESS 3 + 1", x.word(0), 7);
        c.due("ADDRESS 0", x.word(1), 4);
        c.due("ADDRESS 15", x.word(2), 22);
        c.due("the last word", x.word(28), 0);
        c.due("behind", x.word(29), -1);
    }

    private static void commonThatIsExported(Check c) {
        SpanLinker x = new SpanLinker();
        c.write(x, 0, Check.s(Check.COMMON, 1, 8), Check.s(Check.ADDRESS, 1, 0), Check.s(Check.JUMP, 1, 0));
        c.write(x, 1, Check.s(Check.NUMBER, 5), Check.s(Check.LABEL, 1), Check.s(Check.NUMBER, 6));
        x.item(0);
        x.item(1);
        c.due("link", x.link(-1), 0);
        c.due("not global: the COMMON", x.symbol(1), 5);
        c.due("its words", x.size(2), 8);
        c.write(x, 1, Check.s(Check.GLOBAL, 1));
        c.due("link", x.link(-1), 0);
        c.due("exported: the label", x.symbol(1), 4);
        c.due("no words", x.size(2), 0);
        c.words("exported", x, 4, 8 * 4096, 4, 5, 6);
    }

    private static void whatNamesStandFor(Check c) {
        SpanLinker x = new SpanLinker();
        c.write(x, 0, Check.s(Check.NUMBER, 9), Check.s(Check.LABEL, 1), Check.s(Check.ADDRESS, 1, 0),
            Check.s(Check.ADDRESS, 2, 0), Check.s(Check.ADDRESS, 3, 0));
        c.write(x, 1, Check.s(Check.LABEL, 1), Check.s(Check.GLOBAL, 1), Check.s(Check.ADDRESS, 1, 0),
            Check.s(Check.VALUE, 2, 40000), Check.s(Check.GLOBAL, 2), Check.s(Check.ADDRESS, 2, 1),
            Check.s(Check.VALUE, 4, 7), Check.s(Check.ADDRESS, 4, 0));
        c.write(x, 2, Check.s(Check.ADDRESS, 1, 0), Check.s(Check.COMMON, 3, 1), Check.s(Check.VALUE, 2, 3),
            Check.s(Check.ADDRESS, 2, 0));
        x.item(0);
        x.item(1);
        x.item(2);
        c.due("link", x.link(-1), 0);
        c.words("names", x, 9, 1, 40000, 9, 4, 40001, 7, 4, 3, 0);
        c.due("the exported label", x.symbol(1), 4);
        c.due("the exported VALUE", x.symbol(2), 40000);
        c.due("the COMMON", x.symbol(3), 9);
        c.due("a local VALUE", x.symbol(4), -1);
    }

    private static void addressArithmetic(Check c) {
        SpanLinker x = new SpanLinker();
        c.write(x, 0, Check.s(Check.VALUE, 1, 65535), Check.s(Check.VALUE, 2, 0), Check.s(Check.VALUE, 3, 40000),
            Check.s(Check.ADDRESS, 1, 1), Check.s(Check.ADDRESS, 1, 32767), Check.s(Check.ADDRESS, 2, -1),
            Check.s(Check.ADDRESS, 2, -32768), Check.s(Check.ADDRESS, 3, 32767), Check.s(Check.ADDRESS, 3, -32768));
        x.item(0);
        c.due("link", x.link(-1), 0);
        c.words("modulo 65536", x, 0, 32766, 65535, 32768, 7231, 7232);
    }

    private static void wrongArguments(Check c) {
        SpanLinker x = new SpanLinker();
        c.write(x, 0, Check.s(Check.NUMBER, 5), Check.s(Check.LABEL, 0), Check.s(Check.GLOBAL, 0),
            Check.s(Check.LABEL, 15), Check.s(Check.GLOBAL, 15));
        x.item(0);
        c.due("link", x.link(-1), 0);
        int[] wrong = {-1, 16, Integer.MIN_VALUE, Integer.MAX_VALUE};
        for (int k : wrong) {
            c.due("size(" + k + ")", x.size(k), -1);
            c.due("word(" + k + ")", x.word(k), -1);
            c.due("symbol(" + k + ")", x.symbol(k), -1);
        }
        c.due("size(3)", x.size(3), -1);
        c.due("word(1)", x.word(1), -1);
        c.due("symbol(0)", x.symbol(0), 1);
        c.due("symbol(15)", x.symbol(15), 1);
        c.due("symbol(1)", x.symbol(1), -1);
        x.clear(0);
        c.due("link of an empty module", x.link(-1), 0);
        c.due("size", x.size(0), 0);
        c.due("word", x.word(0), -1);
        c.due("symbol", x.symbol(0), -1);
    }

    private static void imageIsKept(Check c) {
        SpanLinker x = new SpanLinker();
        c.write(x, 0, Check.s(Check.JUMP, 1, 0), Check.s(Check.LABEL, 1), Check.s(Check.GLOBAL, 1),
            Check.s(Check.SECTION, Check.DATA), Check.s(Check.NUMBER, 3));
        x.item(0);
        c.due("link", x.link(1), 0);
        c.write(x, 0, Check.s(Check.SECTION, Check.TEXT), Check.s(Check.NUMBER, 4));
        c.due("size", x.size(0), 1);
        c.words("after add", x, 9 * 4096, 3);
        x.clear(0);
        x.newLine();
        c.words("after clear", x, 9 * 4096, 3);
        c.due("symbol", x.symbol(1), 1);
        c.due("start", x.start(), true);
        c.due("PC", x.register(2), 1);
        // 3 STORE into data: the image stays as it was linked.
        c.write(x, 1, Check.s(Check.NUMBER, 4096), Check.s(Check.NUMBER, 77), Check.s(Check.NUMBER, 12288),
            Check.s(Check.ADDRESS, 2, 0), Check.s(Check.SECTION, Check.DATA), Check.s(Check.LABEL, 2),
            Check.s(Check.NUMBER, 5));
        c.linkAndStart(x, -1, 1);
        c.due("run", x.run(2), 2);
        c.due("memory", x.memory(4), 77);
        c.due("word", x.word(4), 5);
    }

    private static void nothingIsLeftOver(Check c) {
        SpanLinker x = new SpanLinker();
        c.write(x, 0, Check.s(Check.NUMBER, 1), Check.s(Check.NUMBER, 2), Check.s(Check.NUMBER, 3),
            Check.s(Check.LABEL, 1), Check.s(Check.GLOBAL, 1), Check.s(Check.COMMON, 2, 1));
        x.item(0);
        c.due("link", x.link(-1), 0);
        x.clear(0);
        c.write(x, 0, Check.s(Check.SPACE, 2), Check.s(Check.SECTION, Check.BSS), Check.s(Check.SPACE, 1));
        c.due("link", x.link(-1), 0);
        c.words("new words", x, 0, 0, 0);
        c.due("symbol(1)", x.symbol(1), -1);
        c.due("symbol(2)", x.symbol(2), -1);
        c.due("size(0)", x.size(0), 2);
        c.due("size(2)", x.size(2), 1);
    }

    private static void stripping(Check c) {
        SpanLinker x = new SpanLinker();
        c.due("no image", x.strip(), false);
        c.write(x, 0, Check.s(Check.NUMBER, 40960), Check.s(Check.LABEL, 1), Check.s(Check.GLOBAL, 1),
            Check.s(Check.NUMBER, 0), Check.s(Check.COMMON, 2, 3));
        c.linkAndStart(x, 1, 0);
        c.due("symbol(1)", x.symbol(1), 1);
        c.due("symbol(2)", x.symbol(2), 2);
        c.due("strip", x.strip(), true);
        c.due("strip again", x.strip(), false);
        c.due("symbol(1)", x.symbol(1), -1);
        c.due("symbol(2)", x.symbol(2), -1);
        c.due("size", x.size(2), 3);
        c.words("stripped", x, 40960, 0, 0, 0, 0);
        c.due("included", x.included(0), 0);
        c.due("the machine stays", x.register(2), 1);
        c.due("run", x.run(5), 1);
        c.due("start", x.start(), true);
        c.due("PC is the name's", x.register(2), 1);
        c.due("start does not undo it", x.symbol(1), -1);
        c.due("link again", x.link(1), 0);
        c.due("a new image has its names", x.symbol(1), 1);
        c.due("and can be stripped", x.strip(), true);
        c.due("a link that fails", x.link(5), SpanLinker.UNDEFINED);
        c.due("nothing to strip", x.strip(), false);
    }
}
