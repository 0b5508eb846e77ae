/** The edges of the image: layout and names in the Terms, and promises 14 (size) to 17 (strip). */
public final class ImageEdgesTest extends Check {
    public static void main(String[] args) {
        ImageEdgesTest t = new ImageEdgesTest();
        t.sumsOverTheEdge();
        t.addressesWithOffsets();
        t.orderOfTheStatements();
        t.orderOfTheSections();
        t.commonsLeastNameFirst();
        t.zeroWords();
        t.labelsInEmptySections();
        t.definedThere();
        t.inTheModuleThatExportsIt();
        t.firstAddressOfTheCommon();
        t.sizeOfNothing();
        t.sizeOfFullSections();
        t.noSuchSection();
        t.noImageNoSize();
        t.noSuchAddress();
        t.noImageNoWord();
        t.asItWasLinked();
        t.knownNames();
        t.noName();
        t.noImageNoSymbol();
        t.symbolsWithoutAWord();
        t.stripTwice();
        t.stripNoImage();
        t.nothingElseChanges();
        t.stripIsOfOneImage();
        t.end();
    }

    private void link(SpanLinker x, int want, int... items) {
        items(x, items);
        due("link(" + want + ")", x.link(want), 0);
    }

    private void sumsOverTheEdge() {
        sentence("sums and differences of words are taken modulo 65536: ADDRESS");
        SpanLinker x = new SpanLinker();
        write(x, 0, s(VALUE, 0, 65535), s(VALUE, 1, 0), s(VALUE, 2, 32768), s(ADDRESS, 0, 0), s(ADDRESS, 0, 1),
            s(ADDRESS, 0, 2), s(ADDRESS, 0, 32767), s(ADDRESS, 0, -1), s(ADDRESS, 1, -1), s(ADDRESS, 1, -32768),
            s(ADDRESS, 1, 32767), s(ADDRESS, 2, -32768), s(ADDRESS, 2, 32767), s(ADDRESS, 0, -32768));
        link(x, -1, 0);
        words("sums", x, 65535, 0, 1, 32766, 65534, 65535, 32768, 32767, 0, 65535, 32767);
    }

    private void addressesWithOffsets() {
        sentence("one word, what the name a stands for plus b");
        SpanLinker x = new SpanLinker();
        space(x, 0, 10);
        write(x, 1, s(LABEL, 0), s(ADDRESS, 0, -10), s(ADDRESS, 0, -11), s(ADDRESS, 0, 32767),
            s(ADDRESS, 1, 5), s(COMMON, 1, 1), s(SECTION, DATA), s(LABEL, 2), s(ADDRESS, 2, -14));
        link(x, -1, 0, 1);
        due("a label less its address", x.word(10), 0);
        due("one less", x.word(11), 65535);
        due("the largest b", x.word(12), 32777);
        due("a COMMON", x.word(13), 20);
        due("a label in data", x.word(14), 0);
    }

    private void orderOfTheStatements() {
        sentence("The words of a section lie one after the other in the order of the statements");
        SpanLinker x = new SpanLinker();
        for (int k = 0; k < 10; k++) {
            write(x, 0, s(SECTION, k % 2 == 0 ? DATA : TEXT), s(NUMBER, 50 + k));
        }
        link(x, -1, 0);
        words("full of sections", x, 51, 53, 55, 57, 59, 50, 52, 54, 56, 58);
        x.clear(0);
        write(x, 0, s(SPACE, 2), s(NUMBER, 7), s(JUMP, 1, 0), s(SECTION, DATA), s(NUMBER, 8), s(SECTION, TEXT),
            s(NUMBER, 9), s(SPACE, 1), s(ADDRESS, 1, 0), s(VALUE, 1, 6), s(SECTION, DATA), s(SPACE, 1), s(NUMBER, 5));
        due("link", x.link(-1), 0);
        words("statements of one word, of more and of none", x, 0, 0, 7, 8 * 4096, 6, 9, 0, 6, 8, 0, 5);
    }

    private void orderOfTheSections() {
        sentence("the text of all included modules in the order in which they were included, then the data of all,"
            + " then the bss of all");
        SpanLinker x = new SpanLinker();
        int[] order = {4, 0, 5, 2};
        for (int module : order) {
            write(x, module, s(SECTION, BSS), s(LABEL, module), s(GLOBAL, module), s(SPACE, 1), s(SECTION, DATA),
                s(NUMBER, 10 + module), s(SECTION, TEXT), s(NUMBER, 20 + module), s(SECTION, DATA),
                s(NUMBER, 30 + module));
        }
        write(x, 0, s(ADDRESS, 5, 0));
        stores(x, 5);
        link(x, -1, 4, 1, 0, 6, 2);
        included("in this order", x, 4, 1, 0, 5, 2);
        words("in this order", x, 24, 20, 25, 22, 14, 34, 10, 30, 15, 15, 35, 12, 32, 0, 0, 0, 0);
        sizes("in this order", x, 4, 9, 4);
        due("symbol(4)", x.symbol(4), 13);
        due("symbol(0)", x.symbol(0), 14);
        due("symbol(5)", x.symbol(5), 15);
        due("symbol(2)", x.symbol(2), 16);
    }

    private void commonsLeastNameFirst() {
        sentence("then for each name, the least first, that is a COMMON of some included module");
        SpanLinker x = new SpanLinker();
        write(x, 0, s(COMMON, 15, 1), s(COMMON, 7, 2), s(NUMBER, 1));
        write(x, 1, s(COMMON, 0, 4), s(COMMON, 7, 1), s(COMMON, 8, 3), s(SECTION, BSS), s(SPACE, 2));
        link(x, -1, 0, 1);
        due("symbol(0)", x.symbol(0), 3);
        due("symbol(7)", x.symbol(7), 7);
        due("symbol(8)", x.symbol(8), 9);
        due("symbol(15)", x.symbol(15), 12);
        sizes("COMMONs behind bss", x, 1, 0, 12);
        words("COMMONs behind bss", x, 1, 0, 0, 0, 0, 0, 0, 0, 0, 0, 0, 0, 0);
    }

    private void zeroWords() {
        sentence("The words of bss and of COMMONs are 0");
        SpanLinker x = new SpanLinker();
        for (int k = 0; k < 20; k++) {
            write(x, 0, s(NUMBER, 65535));
        }
        link(x, -1, 0);
        due("word(19)", x.word(19), 65535);
        x.clear(0);
        write(x, 0, s(SPACE, 4), s(SECTION, DATA), s(SPACE, 4), s(SECTION, BSS), s(SPACE, 6), s(COMMON, 3, 6));
        due("link over the old words", x.link(-1), 0);
        words("all 0", x, new int[20]);
        due("start", x.start(), true);
        for (int address = 0; address < 20; address++) {
            due("memory(" + address + ")", x.memory(address), 0);
        }
    }

    private void labelsInEmptySections() {
        sentence("the address of that place: in sections without words");
        SpanLinker x = new SpanLinker();
        write(x, 0, s(NUMBER, 1), s(SECTION, DATA), s(NUMBER, 2), s(SECTION, BSS), s(SPACE, 3));
        write(x, 1, s(LABEL, 0), s(GLOBAL, 0), s(SECTION, DATA), s(LABEL, 1), s(GLOBAL, 1), s(SECTION, BSS),
            s(LABEL, 2), s(GLOBAL, 2));
        write(x, 2, s(NUMBER, 3), s(SECTION, DATA), s(NUMBER, 4), s(SECTION, BSS), s(SPACE, 1), s(COMMON, 9, 2));
        link(x, -1, 0, 1, 2);
        due("between two texts", x.symbol(0), 1);
        due("between two datas", x.symbol(1), 3);
        due("between two bss", x.symbol(2), 7);
        due("the COMMON behind all", x.symbol(9), 8);
        x.newLine();
        link(x, -1, 1);
        due("in an empty image, text", x.symbol(0), 0);
        due("in an empty image, data", x.symbol(1), 0);
        due("in an empty image, bss", x.symbol(2), 0);
        words("empty", x);
    }

    private void definedThere() {
        sentence("if it is defined there, the address of that place, or its word for VALUE");
        SpanLinker x = new SpanLinker();
        write(x, 0, s(VALUE, 1, 50000), s(GLOBAL, 1), s(ADDRESS, 1, 0));
        write(x, 1, s(ADDRESS, 1, 0), s(LABEL, 1), s(JUMP, 1, 0));
        write(x, 2, s(VALUE, 1, 7), s(ADDRESS, 1, 0), s(JUMP, 1, 0));
        write(x, 3, s(ADDRESS, 1, 0), s(JUMP, 1, 0));
        link(x, 1, 0, 1, 2, 3);
        words("its own first", x, 50000, 2, 9 * 4096 + 255, 7, 8 * 4096, 7, 50000, 8 * 4096, 50000);
        due("symbol", x.symbol(1), 50000);
        int[][] orders = {{0, 1, 2, 3}, {1, 0, 2, 3}, {2, 3, 1, 0}};
        for (int[] order : orders) {
            x.newLine();
            link(x, 1, order);
            due("symbol", x.symbol(1), 50000);
            due("start", x.start(), true);
            due("PC is the exported one", x.register(2), 50000);
        }
    }

    private void inTheModuleThatExportsIt() {
        sentence("Otherwise what it stands for in the module that exports it");
        SpanLinker x = new SpanLinker();
        write(x, 0, s(ADDRESS, 1, 0), s(ADDRESS, 2, 0), s(COMMON, 3, 16), s(ADDRESS, 3, 0));
        write(x, 1, s(NUMBER, 0), s(LABEL, 1), s(GLOBAL, 1), s(VALUE, 2, 9), s(GLOBAL, 2), s(SECTION, DATA),
            s(LABEL, 3), s(GLOBAL, 3));
        write(x, 2, s(COMMON, 1, 2), s(COMMON, 2, 2), s(ADDRESS, 1, 1), s(ADDRESS, 2, 1));
        int[][] orders = {{0, 1, 2}, {2, 1, 0}, {1, 0, 2}, {0, 2, 1}};
        int[][] due = {{4, 9, 6, 0, 5, 10}, {4, 10, 0, 3, 9, 6}, {0, 1, 9, 6, 2, 10}, {6, 9, 6, 7, 10, 0}};
        for (int k = 0; k < orders.length; k++) {
            x.newLine();
            link(x, -1, orders[k]);
            words("order " + k, x, due[k]);
        }
    }

    private void firstAddressOfTheCommon() {
        sentence("if none does, the first address of the words of that COMMON");
        SpanLinker x = new SpanLinker();
        write(x, 0, s(COMMON, 5, 2), s(ADDRESS, 5, 0), s(ADDRESS, 5, 15));
        write(x, 1, s(COMMON, 5, 16), s(ADDRESS, 5, 0), s(COMMON, 4, 1));
        write(x, 2, s(ADDRESS, 5, 0), s(JUMP, 5, 0), s(LABEL, 4));
        link(x, 5, 0, 1, 2);
        words("one COMMON for all", x, 7, 22, 7, 7, 8 * 4096, 7, 0, 0, 0, 0, 0, 0, 0, 0, 0, 0, 0, 0, 0, 0, 0, 0, 0);
        due("symbol(4)", x.symbol(4), 6);
        due("symbol(5)", x.symbol(5), 7);
        due("start", x.start(), true);
        due("PC", x.register(2), 7);
    }

    private void sizeOfNothing() {
        sentence("How many words of the image are text (section 0), data (1), bss and COMMONs (2): none");
        SpanLinker x = new SpanLinker();
        link(x, -1);
        sizes("no module", x, 0, 0, 0);
        link(x, -1, 0, 1, 2, 3, 4, 5, 6);
        sizes("six empty modules", x, 0, 0, 0);
        words("six empty modules", x);
    }

    private void sizeOfFullSections() {
        sentence("How many words of the image are text (section 0), data (1), bss and COMMONs (2): 200");
        for (int section = 0; section < 3; section++) {
            SpanLinker x = new SpanLinker();
            write(x, 0, s(SECTION, section));
            space(x, 0, 200);
            link(x, -1, 0);
            sizes("one section", x, section == 0 ? 200 : 0, section == 1 ? 200 : 0, section == 2 ? 200 : 0);
            due("word(199)", x.word(199), 0);
            due("word(200)", x.word(200), -1);
        }
        SpanLinker y = new SpanLinker();
        write(y, 0, s(SECTION, DATA), s(NUMBER, 1), s(SECTION, BSS), s(SPACE, 2), s(SECTION, TEXT), s(NUMBER, 3));
        write(y, 1, s(SECTION, BSS), s(SPACE, 16), s(COMMON, 1, 5), s(SECTION, DATA), s(SPACE, 4));
        link(y, -1, 0, 1);
        sizes("all sections", y, 1, 5, 23);
    }

    private void noSuchSection() {
        sentence("-1 when there is .. no such section");
        SpanLinker x = new SpanLinker();
        write(x, 0, s(SPACE, 5));
        link(x, -1, 0);
        for (int section : beside(0, 2)) {
            due("size(" + section + ")", x.size(section), -1);
        }
    }

    private void noImageNoSize() {
        sentence("-1 when there is no image (size)");
        SpanLinker x = new SpanLinker();
        sizes("new", x, -1, -1, -1);
        write(x, 0, s(SPACE, 5));
        link(x, -1, 0);
        sizes("linked", x, 5, 0, 0);
        due("link(1)", x.link(1), SpanLinker.UNDEFINED);
        sizes("failed", x, -1, -1, -1);
        due("size(3)", x.size(3), -1);
    }

    private void noSuchAddress() {
        sentence("-1 when there is .. no such address (word)");
        for (int count = 0; count <= 20; count++) {
            SpanLinker x = new SpanLinker();
            for (int k = 0; k < count; k++) {
                write(x, 0, s(NUMBER, 100 + k));
            }
            link(x, -1, 0);
            for (int k = -2; k < count + 3; k++) {
                due("word(" + k + ") of " + count, x.word(k), k >= 0 && k < count ? 100 + k : -1);
            }
            for (int k : beside(0, count - 1)) {
                due("word(" + k + ") of " + count, x.word(k), -1);
            }
            due("word(199)", x.word(199), -1);
            due("word(200)", x.word(200), -1);
        }
    }

    private void noImageNoWord() {
        sentence("-1 when there is no image (word)");
        SpanLinker x = new SpanLinker();
        write(x, 0, s(NUMBER, 5));
        due("new", x.word(0), -1);
        link(x, -1, 0);
        due("linked", x.word(0), 5);
        due("link(1)", x.link(1), SpanLinker.UNDEFINED);
        due("failed", x.word(0), -1);
        due("link(-1)", x.link(-1), 0);
        due("linked again", x.word(0), 5);
    }

    private void asItWasLinked() {
        sentence("The word of the image at an address, as it was linked");
        SpanLinker x = new SpanLinker();
        write(x, 0, s(NUMBER, 4096), s(NUMBER, 77), s(NUMBER, 3 * 4096), s(ADDRESS, 1, 0), s(NUMBER, 0),
            s(SECTION, DATA), s(LABEL, 1), s(NUMBER, 5));
        linkAndStart(x, -1, 0);
        due("run", x.run(9), 3);
        due("memory(5)", x.memory(5), 77);
        words("the machine does not change it", x, 4096, 77, 3 * 4096, 5, 0, 5);
        write(x, 0, s(SECTION, TEXT), s(NUMBER, 9));
        words("add does not change it", x, 4096, 77, 3 * 4096, 5, 0, 5);
        x.clear(0);
        x.newLine();
        words("clear and newLine do not change it", x, 4096, 77, 3 * 4096, 5, 0, 5);
        sizes("as it was linked", x, 5, 1, 0);
        due("start", x.start(), true);
        due("memory(5)", x.memory(5), 5);
    }

    private void knownNames() {
        sentence("A name that is exported, or that is a COMMON and exported by none, is KNOWN in the image");
        SpanLinker x = new SpanLinker();
        write(x, 0, s(NUMBER, 0), s(LABEL, 0), s(GLOBAL, 0), s(LABEL, 1), s(VALUE, 2, 8), s(GLOBAL, 2), s(VALUE, 3, 9),
            s(COMMON, 4, 1), s(COMMON, 5, 1), s(GLOBAL, 5), s(ADDRESS, 6, 0));
        write(x, 1, s(LABEL, 6), s(GLOBAL, 6), s(GLOBAL, 0));
        write(x, 2, s(LABEL, 7), s(GLOBAL, 7), s(COMMON, 8, 1));
        stores(x, 2);
        link(x, -1, 0, 1, 6);
        int[] due = {1, -1, 8, -1, 2, 3, 2, -1, -1, -1, -1, -1, -1, -1, -1, -1};
        for (int name = 0; name < 16; name++) {
            due("symbol(" + name + ")", x.symbol(name), due[name]);
        }
        due("link(7)", x.link(7), 0);
        due("a member's label", x.symbol(7), 2);
        due("a member's COMMON", x.symbol(8), 4);
    }

    private void noName() {
        sentence("-1 when .. the name is not known or no name");
        SpanLinker x = new SpanLinker();
        for (int name = 0; name < 16; name++) {
            write(x, 0, s(VALUE, name, name));
            write(x, 1, s(GLOBAL, name));
        }
        link(x, -1, 0);
        for (int name = 0; name < 16; name++) {
            due("not known: symbol(" + name + ")", x.symbol(name), -1);
        }
        for (int name : beside(0, 15)) {
            due("no name: symbol(" + name + ")", x.symbol(name), -1);
        }
        items(x, 1);
        due("global in another module only", x.link(-1), SpanLinker.UNDEFINED);
        due("missing", x.missing(), 65535);
    }

    private void noImageNoSymbol() {
        sentence("-1 when there is no image (symbol)");
        SpanLinker x = new SpanLinker();
        export(x, 0, 0);
        write(x, 0, s(COMMON, 1, 1));
        due("new", x.symbol(0), -1);
        link(x, -1, 0);
        due("linked", x.symbol(0), 0);
        due("linked", x.symbol(1), 0);
        due("link(5)", x.link(5), SpanLinker.UNDEFINED);
        due("failed", x.symbol(0), -1);
        due("failed", x.symbol(1), -1);
    }

    private void symbolsWithoutAWord() {
        sentence("What a name that is known in the image stands for: where no word is");
        SpanLinker x = new SpanLinker();
        space(x, 0, 200);
        write(x, 0, s(LABEL, 1), s(GLOBAL, 1), s(VALUE, 2, 201), s(GLOBAL, 2), s(SECTION, BSS), s(LABEL, 3), s(GLOBAL, 3));
        link(x, 1, 0);
        due("the end of text", x.symbol(1), 200);
        due("a VALUE", x.symbol(2), 201);
        due("the end of bss", x.symbol(3), 200);
        due("no word is there", x.word(200), -1);
        due("start", x.start(), true);
        due("PC", x.register(2), 200);
        due("run", x.run(1), 0);
        due("OUTSIDE", x.register(3), OUTSIDE);
    }

    private void stripTwice() {
        sentence("Strips the image: true; false when .. it was stripped");
        SpanLinker x = new SpanLinker();
        export(x, 0, 0);
        write(x, 0, s(COMMON, 15, 1));
        link(x, -1, 0);
        due("strip", x.strip(), true);
        for (int k = 0; k < 3; k++) {
            due("strip again", x.strip(), false);
            due("symbol(0)", x.symbol(0), -1);
            due("symbol(15)", x.symbol(15), -1);
        }
        SpanLinker y = new SpanLinker();
        link(y, -1);
        due("an image without words", y.strip(), true);
        due("again", y.strip(), false);
    }

    private void stripNoImage() {
        sentence("false when there is none (strip)");
        SpanLinker x = new SpanLinker();
        export(x, 0, 0);
        due("new", x.strip(), false);
        items(x, 0);
        due("not linked", x.strip(), false);
        due("link(0)", x.link(0), 0);
        due("a refused strip strips nothing", x.symbol(0), 0);
        due("link(1)", x.link(1), SpanLinker.UNDEFINED);
        due("failed", x.strip(), false);
        due("link(0)", x.link(0), 0);
        due("a refused strip strips nothing", x.symbol(0), 0);
        due("strip", x.strip(), true);
    }

    private void nothingElseChanges() {
        sentence("Nothing else changes (strip)");
        SpanLinker x = new SpanLinker();
        write(x, 0, s(NUMBER, 5), s(LABEL, 0), s(GLOBAL, 0), s(NUMBER, 11 * 4096), s(NUMBER, 10 * 4096), s(NUMBER, 0),
            s(COMMON, 1, 2));
        linkAndStart(x, 0, 0);
        due("feed", x.feed(33), true);
        due("run", x.run(2), 2);
        due("strip", x.strip(), true);
        words("the words", x, 5, 11 * 4096, 10 * 4096, 0, 0, 0);
        sizes("the sizes", x, 4, 0, 2);
        included("what was included", x, 0);
        due("missing", x.missing(), 0);
        registers("the machine", x, 33, 0, 3, RUNNING);
        due("put out", x.register(5), 33);
        due("memory(1)", x.memory(1), 11 * 4096);
        due("run", x.run(2), 1);
        due("start", x.start(), true);
        registers("it begins at the name", x, 0, 0, 1, RUNNING);
        due("length", x.length(0, TEXT), 4);
    }

    private void stripIsOfOneImage() {
        sentence("-1 when .. it was stripped (symbol): a new link makes a new image");
        SpanLinker x = new SpanLinker();
        export(x, 0, 0);
        link(x, 0, 0);
        due("strip", x.strip(), true);
        due("start", x.start(), true);
        due("start brings no names back", x.symbol(0), -1);
        due("link(16), refused", x.link(16), -1);
        due("still stripped", x.symbol(0), -1);
        due("still stripped", x.strip(), false);
        due("link(0)", x.link(0), 0);
        due("a new image", x.symbol(0), 0);
        due("strip", x.strip(), true);
        due("link(1), failed", x.link(1), SpanLinker.UNDEFINED);
        due("link(0)", x.link(0), 0);
        due("a new image", x.symbol(0), 0);
    }
}
