/** The edges of linking: what the Terms say of it, and promises 11 (link), 12 (included), 13 (missing). */
public final class LinkEdgesTest extends Check {
    private static final int DOUBLE = SpanLinker.DOUBLE;
    private static final int UNDEFINED = SpanLinker.UNDEFINED;
    private static final int LONG = SpanLinker.LONG;

    public static void main(String[] args) {
        LinkEdgesTest t = new LinkEdgesTest();
        t.everyWant();
        t.wantIsNoName();
        t.refusedAfterAFailedLink();
        t.thrownAway();
        t.emptyLine();
        t.emptyArchive();
        t.nothingWantedOfTheArchive();
        t.goneOverFromFirstToLast();
        t.goneOverAgain();
        t.notIncludedYet();
        t.wantedThen();
        t.commonsAreNotWanted();
        t.exportsAndRefers();
        t.neitherDefinedNorCommon();
        t.exportedByTwo();
        t.exportedByOneOnly();
        t.whichFailureFirst();
        t.twoHundredWords();
        t.jumpsUpToTwoHundred();
        t.commonsUpToTwoHundred();
        t.uncountedWords();
        t.theLongestOfAll();
        t.includedOfNoLink();
        t.includedEdges();
        t.includedOfTheLatest();
        t.missingOfNoLink();
        t.missingNames();
        t.missingOfTheLatest();
        t.end();
    }

    /** Modules 0 and 1 export the VALUEs 100 .. 115 by the names 0 .. 15. */
    private SpanLinker allNames() {
        SpanLinker x = new SpanLinker();
        for (int name = 0; name < 16; name++) {
            write(x, name / 8, s(VALUE, name, 100 + name), s(GLOBAL, name));
        }
        return x;
    }

    private void everyWant() {
        sentence("with the name that is wanted from the beginning (-1: none)");
        SpanLinker x = allNames();
        stores(x, 1, 0);
        items(x, 6);
        due("link(-1)", x.link(-1), 0);
        included("none is wanted", x);
        for (int name = 0; name < 16; name++) {
            due("link(" + name + ")", x.link(name), 0);
            included("the name " + name, x, name / 8);
            due("start", x.start(), true);
            due("PC", x.register(2), 100 + name);
        }
    }

    private void wantIsNoName() {
        sentence("-1, refused (image and machine stay), when want is not -1 .. 15");
        SpanLinker x = new SpanLinker();
        write(x, 0, s(NUMBER, 4096), s(NUMBER, 9), s(LABEL, 1), s(GLOBAL, 1), s(NUMBER, 0));
        linkAndStart(x, -1, 0);
        due("run(1)", x.run(1), 1);
        x.newLine();
        for (int want : beside(-1, 15)) {
            due("link(" + want + ")", x.link(want), -1);
        }
        words("the image stays", x, 4096, 9, 0);
        due("its names stay", x.symbol(1), 2);
        registers("the machine stays", x, 9, 0, 2, RUNNING);
        included("of the link before", x, 0);
        due("missing of the link before", x.missing(), 0);
        due("the machine can go on", x.run(5), 1);
        due("the image can be stripped", x.strip(), true);
        due("link(16)", x.link(16), -1);
        due("it stays stripped", x.symbol(1), -1);
    }

    private void refusedAfterAFailedLink() {
        sentence("A call that is refused changes nothing: link, when there is no image");
        SpanLinker x = new SpanLinker();
        for (int want : beside(-1, 15)) {
            due("link(" + want + ") of a new object", x.link(want), -1);
        }
        noImage("new", x);
        included("new", x);
        due("missing", x.missing(), 0);
        write(x, 2, s(ADDRESS, 4, 0));
        items(x, 2);
        due("link(5)", x.link(5), UNDEFINED);
        for (int want : beside(-1, 15)) {
            due("link(" + want + ")", x.link(want), -1);
        }
        noImage("failed", x);
        included("failed", x, 2);
        due("missing", x.missing(), 16 + 32);
    }

    /** Makes an image and a machine, then links again with what a test has put there. */
    private void thrownAwayBy(int result, int want, int[]... statements) {
        SpanLinker x = new SpanLinker();
        write(x, 0, s(LABEL, 1), s(GLOBAL, 1), s(NUMBER, 10 * 4096), s(NUMBER, 0));
        write(x, 1, s(NUMBER, 0));
        linkAndStart(x, 1, 0, 1);
        due("feed", x.feed(3), true);
        due("run", x.run(9), 2);
        write(x, 1, statements);
        due("link again", x.link(want), result);
        if (result != 0) {
            noImage("result " + result, x);
        } else {
            due("an image is there", x.word(0), 10 * 4096);
        }
        noMachine("result " + result, x);
        included("result " + result, x, 0, 1);
    }

    private void thrownAway() {
        sentence("Throws away image and machine, then links: .. 0 and an image, or DOUBLE, UNDEFINED or LONG and none");
        thrownAwayBy(0, 1, s(NUMBER, 1));
        thrownAwayBy(DOUBLE, 1, s(LABEL, 1), s(GLOBAL, 1));
        thrownAwayBy(UNDEFINED, 2, s(NUMBER, 1));
        thrownAwayBy(UNDEFINED, 1, s(ADDRESS, 5, 0));
        int[][] many = new int[13][];
        for (int k = 0; k < 13; k++) {
            many[k] = s(SPACE, 16);
        }
        thrownAwayBy(LONG, 1, many);
    }

    private void emptyLine() {
        sentence("LINKING goes over the line: an empty one");
        SpanLinker x = allNames();
        stores(x, 1, 0);
        due("link(-1)", x.link(-1), 0);
        included("nothing", x);
        sizes("nothing", x, 0, 0, 0);
        words("nothing", x);
        for (int name = 0; name < 16; name++) {
            due("symbol(" + name + ")", x.symbol(name), -1);
            due("link(" + name + ")", x.link(name), UNDEFINED);
            due("missing", x.missing(), 1 << name);
            included("nothing", x);
        }
    }

    private void emptyArchive() {
        sentence("For the archive: its members are gone over: when there are none");
        SpanLinker x = new SpanLinker();
        items(x, 6, 6, 0, 6, 6);
        due("link(-1)", x.link(-1), 0);
        included("the module alone", x, 0);
        due("link(3)", x.link(3), UNDEFINED);
        due("missing", x.missing(), 8);
        included("the module alone", x, 0);
    }

    private void nothingWantedOfTheArchive() {
        sentence("exports a name that is WANTED then: when none is wanted");
        SpanLinker x = allNames();
        stores(x, 0, 1, 2, 3, 4, 5);
        items(x, 6, 6);
        due("link(-1)", x.link(-1), 0);
        included("none", x);
        sizes("none", x, 0, 0, 0);
    }

    private void goneOverFromFirstToLast() {
        sentence("its members are gone over from the first to the last");
        SpanLinker x = new SpanLinker();
        for (int module = 0; module < 6; module++) {
            export(x, module, 7);
        }
        int[] order = {4, 2, 5, 0, 3, 1};
        stores(x, order);
        items(x, 6);
        for (int first : order) {
            due("link(7)", x.link(7), 0);
            included("the first that exports it", x, first);
            due("remove(" + first + ")", x.remove(first), true);
        }
        due("link(7)", x.link(7), UNDEFINED);
        SpanLinker y = new SpanLinker();
        for (int module = 0; module < 5; module++) {
            export(y, module, module);
            write(y, 5, s(ADDRESS, module, 0));
        }
        stores(y, 3, 1, 4, 0, 2);
        items(y, 5, 6);
        due("link(-1)", y.link(-1), 0);
        included("in the order of the archive", y, 5, 3, 1, 4, 0, 2);
    }

    private void goneOverAgain() {
        sentence("if one was, they are gone over again");
        SpanLinker x = new SpanLinker();
        for (int module = 0; module < 6; module++) {
            export(x, module, module);
            if (module > 0) {
                write(x, module, s(GLOBAL, module - 1));
            }
        }
        stores(x, 0, 1, 2, 3, 4, 5);
        items(x, 6);
        int[][] due = {{0}, {1, 0}, {2, 1, 0}, {3, 2, 1, 0}, {4, 3, 2, 1, 0}, {5, 4, 3, 2, 1, 0}};
        for (int name = 0; name < 6; name++) {
            due("link(" + name + ")", x.link(name), 0);
            included("one in each pass", x, due[name]);
        }
        SpanLinker y = new SpanLinker();
        for (int module = 0; module < 6; module++) {
            export(y, module, module);
            write(y, module, s(GLOBAL, (module + 1) % 6));
        }
        stores(y, 0, 1, 2, 3, 4, 5);
        items(y, 6);
        due("a ring", y.link(3), 0);
        included("two passes", y, 3, 4, 5, 0, 1, 2);
    }

    private void notIncludedYet() {
        sentence("each that is not included yet");
        SpanLinker x = new SpanLinker();
        export(x, 0, 1);
        write(x, 0, s(NUMBER, 5), s(ADDRESS, 9, 0));
        export(x, 1, 2);
        write(x, 2, s(ADDRESS, 2, 0));
        stores(x, 0, 1);
        items(x, 6, 2, 6, 6);
        due("link(1)", x.link(1), UNDEFINED);
        included("each once", x, 0, 2, 1);
        due("missing", x.missing(), 1 << 9);
        write(x, 2, s(COMMON, 9, 1));
        due("link(1)", x.link(1), 0);
        included("each once", x, 0, 2, 1);
        sizes("each once", x, 3, 0, 1);
    }

    private void wantedThen() {
        sentence("exports a name that is WANTED then");
        SpanLinker x = new SpanLinker();
        export(x, 0, 2);
        export(x, 1, 1);
        write(x, 1, s(JUMP, 2, 0), s(ADDRESS, 3, 0));
        export(x, 2, 3);
        export(x, 3, 2);
        export(x, 3, 4);
        export(x, 4, 3);
        stores(x, 0, 1, 2, 3, 4);
        items(x, 6);
        due("link(1)", x.link(1), 0);
        included("no second one, and the pass goes on where it is", x, 1, 2, 3);
        due("link(2)", x.link(2), 0);
        included("the first one", x, 0);
        due("link(4)", x.link(4), 0);
        included("an export beside", x, 3);
        write(x, 5, s(ADDRESS, 4, 0), s(ADDRESS, 2, 0));
        x.newLine();
        items(x, 5, 6);
        due("two names of two members", x.link(-1), DOUBLE);
        included("both were wanted when they came", x, 5, 0, 3);
        due("store(3, 0)", x.store(3, 0), true);
        due("one member has both", x.link(-1), 0);
        included("the other was not wanted any more", x, 5, 3);
    }

    private void commonsAreNotWanted() {
        sentence("no included module exports it or has it as a COMMON");
        SpanLinker x = new SpanLinker();
        write(x, 0, s(COMMON, 1, 3));
        export(x, 1, 1);
        stores(x, 1);
        items(x, 0, 6);
        due("a COMMON is the name given", x.link(1), 0);
        included("the member stays out", x, 0);
        due("missing", x.missing(), 0);
        write(x, 0, s(ADDRESS, 1, 0), s(GLOBAL, 1));
        due("a COMMON that is used and global", x.link(-1), 0);
        included("the member stays out", x, 0);
        x.newLine();
        x.remove(1);
        stores(x, 0);
        items(x, 6);
        due("a member's COMMON is no export", x.link(1), UNDEFINED);
        included("it stays out", x);
        due("missing", x.missing(), 2);
        export(x, 0, 5);
        write(x, 2, s(ADDRESS, 5, 0), s(ADDRESS, 1, 0));
        stores(x, 1);
        items(x, 2, 6);
        due("a COMMON comes with a member", x.link(-1), 0);
        included("then the next is not wanted", x, 2, 0);
    }

    private void exportsAndRefers() {
        sentence("A module EXPORTS the names that are both defined and global in it");
        int[][][] exporting = {
            {s(LABEL, 1), s(GLOBAL, 1)}, {s(GLOBAL, 1), s(VALUE, 1, 0)},
            {s(SECTION, DATA), s(GLOBAL, 1), s(LABEL, 1)}, {s(SECTION, BSS), s(LABEL, 1), s(GLOBAL, 1)},
        };
        for (int[][] statements : exporting) {
            SpanLinker x = new SpanLinker();
            write(x, 0, statements);
            stores(x, 0);
            items(x, 6);
            due("exported", x.link(1), 0);
            due("no other name", x.link(0), UNDEFINED);
        }
        int[][][] others = {
            {}, {s(LABEL, 1)}, {s(VALUE, 1, 0)}, {s(GLOBAL, 1)}, {s(COMMON, 1, 1), s(GLOBAL, 1)},
            {s(ADDRESS, 1, 0)}, {s(LABEL, 1), s(GLOBAL, 2)},
        };
        for (int[][] statements : others) {
            SpanLinker x = new SpanLinker();
            write(x, 0, statements);
            stores(x, 0);
            items(x, 6);
            due("not exported", x.link(1), UNDEFINED);
            included("not exported", x);
        }
    }

    private void neitherDefinedNorCommon() {
        sentence("It REFERS to the names that are neither defined nor a COMMON in it and that are global in it or"
            + " stand in an ADDRESS or JUMP of it");
        int[][] referring = {s(GLOBAL, 3), s(ADDRESS, 3, 0), s(JUMP, 3, 0)};
        int[][] holding = {s(LABEL, 3), s(VALUE, 3, 0), s(COMMON, 3, 1)};
        for (int[] refers : referring) {
            SpanLinker x = new SpanLinker();
            write(x, 0, refers);
            items(x, 0);
            due("refers", x.link(-1), UNDEFINED);
            due("missing", x.missing(), 8);
            for (int[] holds : holding) {
                SpanLinker y = new SpanLinker();
                write(y, 0, refers, holds);
                items(y, 0);
                due("does not refer", y.link(-1), 0);
                y.clear(0);
                write(y, 0, holds, refers);
                due("in the other order", y.link(-1), 0);
            }
        }
        SpanLinker z = new SpanLinker();
        write(z, 0, s(NUMBER, 3), s(SPACE, 3), s(SECTION, 1));
        items(z, 0);
        due("other numbers are no names", z.link(-1), 0);
    }

    private void exportedByTwo() {
        sentence("if a name is exported by two included modules, linking fails: DOUBLE");
        for (int name = 0; name < 16; name++) {
            SpanLinker x = new SpanLinker();
            for (int module = 0; module < 6; module++) {
                if (module % 2 == 0) {
                    write(x, module, s(VALUE, name, 7), s(GLOBAL, name));
                } else {
                    export(x, module, name);
                }
                items(x, module);
                due(module + 1 + " export it", x.link(-1), module == 0 ? 0 : DOUBLE);
                due("included", x.included(module), module);
            }
            noImage("double", x);
        }
        SpanLinker apart = new SpanLinker();
        export(apart, 2, 15);
        export(apart, 3, 0);
        write(apart, 3, s(VALUE, 15, 0));
        export(apart, 0, 15);
        items(apart, 2, 1, 3, 4, 0);
        due("others stand between the two", apart.link(-1), DOUBLE);
        included("double", apart, 2, 1, 3, 4, 0);
        SpanLinker y = new SpanLinker();
        export(y, 0, 1);
        export(y, 1, 2);
        export(y, 5, 1);
        stores(y, 5);
        write(y, 1, s(ADDRESS, 1, 0));
        items(y, 1, 6, 0);
        due("a member, then a module of the line", y.link(-1), DOUBLE);
        included("double", y, 1, 5, 0);
        y.newLine();
        items(y, 1, 0, 6);
        due("the module first", y.link(-1), 0);
        included("no member", y, 1, 0);
    }

    private void exportedByOneOnly() {
        sentence("if a name is exported by two included modules: when other modules have it otherwise");
        SpanLinker x = new SpanLinker();
        export(x, 0, 1);
        write(x, 1, s(LABEL, 1));
        write(x, 2, s(VALUE, 1, 9));
        write(x, 3, s(COMMON, 1, 4), s(GLOBAL, 1));
        write(x, 4, s(GLOBAL, 1), s(ADDRESS, 1, 0), s(JUMP, 1, 0));
        export(x, 5, 1);
        stores(x, 5);
        items(x, 0, 1, 2, 3, 4, 6);
        due("link(1)", x.link(1), 0);
        included("without the member", x, 0, 1, 2, 3, 4);
        due("the one that exports it", x.symbol(1), 0);
        sizes("no words of the COMMON", x, 3, 0, 0);
    }

    private void whichFailureFirst() {
        sentence("fails: DOUBLE. Otherwise, .. UNDEFINED. Otherwise .. LONG");
        SpanLinker x = new SpanLinker();
        export(x, 0, 1);
        space(x, 0, 192);
        export(x, 1, 1);
        space(x, 1, 16);
        write(x, 2, s(ADDRESS, 2, 0));
        items(x, 0, 1, 2);
        due("all three", x.link(3), DOUBLE);
        due("the wanted names are told", x.missing(), 4 + 8);
        x.clear(2);
        due("DOUBLE and LONG", x.link(-1), DOUBLE);
        due("missing", x.missing(), 0);
        x.newLine();
        write(x, 2, s(ADDRESS, 2, 0));
        space(x, 2, 32);
        items(x, 0, 2);
        due("UNDEFINED and LONG", x.link(-1), UNDEFINED);
        due("missing", x.missing(), 4);
        write(x, 2, s(VALUE, 2, 0));
        due("LONG alone", x.link(-1), LONG);
        due("missing", x.missing(), 0);
        included("LONG", x, 0, 2);
        x.clear(2);
        due("none of them", x.link(-1), 0);
    }

    /** Module 0 has so many words of text. */
    private SpanLinker ofWords(int words) {
        SpanLinker x = new SpanLinker();
        space(x, 0, words);
        items(x, 0, 1, 2);
        return x;
    }

    private void twoHundredWords() {
        sentence("If that makes more than 200 words, linking fails: LONG");
        int[][][] oneMore = {
            {s(NUMBER, 1)}, {s(VALUE, 1, 9), s(ADDRESS, 1, 0)}, {s(SPACE, 1)}, {s(COMMON, 1, 1)},
            {s(SECTION, DATA), s(NUMBER, 1)}, {s(SECTION, DATA), s(SPACE, 1)}, {s(SECTION, BSS), s(SPACE, 1)},
            {s(LABEL, 1), s(JUMP, 1, 0)},
        };
        for (int[][] statements : oneMore) {
            SpanLinker x = ofWords(199);
            write(x, 1, statements);
            due("200 words", x.link(-1), 0);
            due("in all", x.size(TEXT) + x.size(DATA) + x.size(BSS), 200);
            due("word(199)", x.word(199) >= 0, true);
            due("word(200)", x.word(200), -1);
            write(x, 0, s(SPACE, 1));
            due("201 words", x.link(-1), LONG);
            noImage("201 words", x);
            x.clear(1);
            due("200 words again", x.link(-1), 0);
            sizes("200 words of text", x, 200, 0, 0);
        }
    }

    private void jumpsUpToTwoHundred() {
        sentence("If that makes more than 200 words, linking fails: LONG (by long jumps)");
        SpanLinker x = ofWords(199);
        write(x, 1, s(JUMP, 1, 0));
        write(x, 2, s(LABEL, 1), s(GLOBAL, 1));
        due("a long jump makes 201", x.link(-1), LONG);
        write(x, 1, s(LABEL, 1));
        due("a short one 200", x.link(-1), 0);
        x = ofWords(198);
        write(x, 1, s(JUMP, 1, 0));
        write(x, 2, s(LABEL, 1), s(GLOBAL, 1));
        due("a long jump makes 200", x.link(-1), 0);
        due("the last word", x.word(199), 200);
    }

    private void commonsUpToTwoHundred() {
        sentence("as many words as the largest of those COMMONs has");
        SpanLinker x = new SpanLinker();
        for (int name = 0; name < 12; name++) {
            write(x, 0, s(COMMON, name, 16));
        }
        write(x, 0, s(COMMON, 12, 3));
        write(x, 1, s(COMMON, 12, 8), s(COMMON, 0, 1), s(COMMON, 11, 16));
        write(x, 2, s(COMMON, 12, 4));
        items(x, 0, 1, 2);
        due("200 words of COMMONs", x.link(-1), 0);
        sizes("200 words", x, 0, 0, 200);
        for (int name = 0; name <= 12; name++) {
            due("symbol(" + name + ")", x.symbol(name), 16 * name);
        }
        write(x, 3, s(COMMON, 12, 9));
        due("the larger one is not included", x.link(-1), 0);
        items(x, 3);
        due("now it is", x.link(-1), LONG);
        x.newLine();
        items(x, 3, 0, 1, 2);
        due("as the first", x.link(-1), LONG);
    }

    private void uncountedWords() {
        sentence("that is a COMMON of some included module and exported by none");
        SpanLinker x = ofWords(200);
        write(x, 1, s(COMMON, 1, 16));
        due("216 words", x.link(-1), LONG);
        write(x, 2, s(LABEL, 1));
        due("a label that is not global", x.link(-1), LONG);
        write(x, 2, s(GLOBAL, 1));
        due("it is exported", x.link(-1), 0);
        sizes("no words of the COMMON", x, 200, 0, 0);
        due("it stands for the label", x.symbol(1), 200);
        write(x, 3, s(NUMBER, 1), s(VALUE, 5, 0), s(GLOBAL, 5));
        stores(x, 3);
        items(x, 6);
        due("a member that is not included", x.link(-1), 0);
        due("a member that is", x.link(5), LONG);
        included("too long", x, 0, 1, 2, 3);
    }

    private void theLongestOfAll() {
        sentence("If that makes more than 200 words, linking fails: LONG (all modules full)");
        SpanLinker x = new SpanLinker();
        for (int module = 0; module < 6; module++) {
            space(x, module, 320);
            items(x, module);
        }
        due("1920 words", x.link(-1), LONG);
        noImage("1920 words", x);
        noMachine("1920 words", x);
        included("all six", x, 0, 1, 2, 3, 4, 5);
        due("missing", x.missing(), 0);
        SpanLinker y = new SpanLinker();
        for (int name = 0; name < 16; name++) {
            write(y, 0, s(COMMON, name, 16));
        }
        items(y, 0);
        due("256 words of COMMONs", y.link(-1), LONG);
        noImage("256 words of COMMONs", y);
    }

    private void includedOfNoLink() {
        sentence("-1 when there were not so many, or no link was");
        SpanLinker x = new SpanLinker();
        items(x, 0, 1);
        included("no link was", x);
        due("a refused link", x.link(-2), -1);
        included("no link was", x);
        due("link", x.link(-1), 0);
        included("a link was", x, 0, 1);
    }

    private void includedEdges() {
        sentence("The module included k-th (from 0)");
        SpanLinker x = new SpanLinker();
        int[] order = {3, 5, 0, 4, 1, 2};
        for (int count = 0; count <= 6; count++) {
            due("link", x.link(-1), 0);
            for (int k = -3; k < 10; k++) {
                due("included(" + k + ") of " + count, x.included(k), k >= 0 && k < count ? order[k] : -1);
            }
            if (count < 6) {
                items(x, order[count]);
            }
        }
    }

    private void includedOfTheLatest() {
        sentence("by the latest link that was not refused, failed or not");
        SpanLinker x = new SpanLinker();
        export(x, 0, 1);
        export(x, 1, 1);
        write(x, 2, s(ADDRESS, 9, 0));
        items(x, 0);
        due("link", x.link(-1), 0);
        included("0", x, 0);
        items(x, 1);
        due("link", x.link(-1), DOUBLE);
        included("DOUBLE", x, 0, 1);
        x.newLine();
        items(x, 2);
        due("link", x.link(-1), UNDEFINED);
        included("UNDEFINED", x, 2);
        x.clear(2);
        space(x, 2, 208);
        items(x, 0);
        due("link", x.link(-1), LONG);
        included("LONG", x, 2, 0);
        due("refused", x.link(16), -1);
        x.newLine();
        x.clear(0);
        due("store(0, -1)", x.store(0, -1), true);
        included("nothing but a link changes it", x, 2, 0);
        due("link", x.link(-1), 0);
        included("an empty line", x);
    }

    private void missingOfNoLink() {
        sentence("0 when no link was");
        SpanLinker x = new SpanLinker();
        write(x, 0, s(ADDRESS, 3, 0));
        items(x, 0);
        due("missing", x.missing(), 0);
        due("a refused link", x.link(16), -1);
        due("missing", x.missing(), 0);
    }

    private void missingNames() {
        sentence("The names wanted in the end of the latest link ..: the sum of 2^name");
        SpanLinker x = new SpanLinker();
        items(x, 0);
        int sum = 0;
        for (int name = 15; name >= 0; name--) {
            write(x, 0, name % 2 == 0 ? s(ADDRESS, name, 0) : s(JUMP, name, 0));
            sum += 1 << name;
            due("link", x.link(-1), UNDEFINED);
            due("missing", x.missing(), sum);
        }
        due("all sixteen", sum, 65535);
        due("one of them is given too", x.link(15), UNDEFINED);
        due("missing", x.missing(), 65535);
        SpanLinker all = allNames();
        for (int name = 0; name < 16; name++) {
            write(all, 2, s(ADDRESS, name, 0));
        }
        items(all, 2, 0);
        due("half of them", all.link(15), UNDEFINED);
        due("missing", all.missing(), 65280);
        items(all, 1);
        due("none", all.link(15), 0);
        due("missing", all.missing(), 0);
    }

    private void missingOfTheLatest() {
        sentence("the latest link that was not refused (missing)");
        SpanLinker x = new SpanLinker();
        write(x, 0, s(ADDRESS, 3, 0));
        items(x, 0);
        due("link", x.link(0), UNDEFINED);
        due("missing", x.missing(), 9);
        due("refused", x.link(-2), -1);
        due("missing", x.missing(), 9);
        write(x, 0, s(LABEL, 3), s(ADDRESS, 5, 0));
        due("nothing but a link changes it", x.missing(), 9);
        x.newLine();
        x.clear(0);
        due("nothing but a link changes it", x.missing(), 9);
        due("link", x.link(-1), 0);
        due("missing", x.missing(), 0);
        space(x, 0, 208);
        items(x, 0);
        due("link", x.link(7), UNDEFINED);
        due("missing", x.missing(), 128);
        due("link", x.link(-1), LONG);
        due("missing", x.missing(), 0);
    }
}
