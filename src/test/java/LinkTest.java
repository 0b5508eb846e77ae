/** Promises 11 (link), 12 (included) and 13 (missing). */
public final class LinkTest {
    public static void main(String[] args) {
        Check c = new Check();
        refusedLink(c);
        throwingAway(c);
        wantedNames(c);
        archivePasses(c);
        wantedThen(c);
        archiveOnTheLineTwice(c);
        commonsStopTheSearch(c);
        localNamesDoNotExport(c);
        doubles(c);
        tooLong(c);
        failedLinksTell(c);
        c.end();
    }

    private static void refusedLink(Check c) {
        SpanLinker x = new SpanLinker();
        c.write(x, 0, Check.s(Check.NUMBER, 4096), Check.s(Check.NUMBER, 9));
        c.linkAndStart(x, -1, 0);
        c.due("run", x.run(1), 1);
        x.newLine();
        int[] wrong = {-2, 16, Integer.MIN_VALUE, Integer.MAX_VALUE};
        for (int want : wrong) {
            c.due("link(" + want + ")", x.link(want), -1);
        }
        c.due("the image stays", x.word(1), 9);
        c.due("the machine stays", x.register(0), 9);
        c.included("refused", x, 0);
        c.due("missing", x.missing(), 0);
        c.due("a link that fails", x.link(15), SpanLinker.UNDEFINED);
        x.link(16);
        c.due("missing after a refused one", x.missing(), 1 << 15);
    }

    private static void throwingAway(Check c) {
        SpanLinker x = new SpanLinker();
        c.write(x, 0, Check.s(Check.NUMBER, 4096), Check.s(Check.NUMBER, 9));
        c.linkAndStart(x, -1, 0);
        c.due("link again", x.link(-1), 0);
        c.due("an image", x.word(1), 9);
        c.due("no machine", x.register(3), -1);
        c.due("no memory", x.memory(0), -1);
        c.due("no run", x.run(1), -1);
        c.due("no feed", x.feed(1), false);
        c.due("start", x.start(), true);
        c.due("link fails", x.link(3), SpanLinker.UNDEFINED);
        c.due("no image", x.word(0), -1);
        c.due("no size", x.size(0), -1);
        c.due("no strip", x.strip(), false);
        c.due("no start", x.start(), false);
        c.due("no machine", x.register(0), -1);
    }

    private static void wantedNames(Check c) {
        SpanLinker x = new SpanLinker();
        c.write(x, 0, Check.s(Check.ADDRESS, 1, 0), Check.s(Check.JUMP, 2, 0), Check.s(Check.GLOBAL, 3),
            Check.s(Check.ADDRESS, 4, 0), Check.s(Check.LABEL, 4), Check.s(Check.COMMON, 5, 1),
            Check.s(Check.ADDRESS, 5, 0), Check.s(Check.GLOBAL, 5), Check.s(Check.VALUE, 6, 1),
            Check.s(Check.JUMP, 6, 0));
        c.due("nothing is on the line", x.link(-1), 0);
        c.due("missing", x.missing(), 0);
        c.due("a name is given", x.link(0), SpanLinker.UNDEFINED);
        c.due("missing", x.missing(), 1);
        x.item(0);
        c.due("link(-1)", x.link(-1), SpanLinker.UNDEFINED);
        c.due("missing", x.missing(), 2 + 4 + 8);
        c.due("link(15)", x.link(15), SpanLinker.UNDEFINED);
        c.due("missing", x.missing(), 2 + 4 + 8 + (1 << 15));
        c.due("a defined name that is not global", x.link(4), SpanLinker.UNDEFINED);
        c.due("missing", x.missing(), 2 + 4 + 8 + 16);
        c.due("a COMMON is given", x.link(5), SpanLinker.UNDEFINED);
        c.due("missing", x.missing(), 2 + 4 + 8);
        c.export(x, 1, 1);
        c.export(x, 1, 2);
        c.write(x, 2, Check.s(Check.COMMON, 3, 2));
        x.item(1);
        x.item(2);
        c.due("all are there", x.link(-1), 0);
        c.due("missing", x.missing(), 0);
        c.due("the change of a module tells later", x.clear(1), 4);
        c.due("missing of the latest link", x.missing(), 0);
        c.included("all", x, 0, 1, 2);
    }

    /** Each member wants a name of the member in front of it, so each pass includes one. */
    private static void archivePasses(Check c) {
        SpanLinker x = new SpanLinker();
        for (int module = 0; module < 6; module++) {
            c.export(x, module, module);
            c.write(x, module, Check.s(Check.ADDRESS, module == 0 ? 0 : module - 1, 0));
            c.due("store", x.store(module, -1), true);
        }
        x.item(Check.ARCHIVE);
        c.due("link(5)", x.link(5), 0);
        c.included("six passes", x, 5, 4, 3, 2, 1, 0);
        c.due("link(2)", x.link(2), 0);
        c.included("three passes", x, 2, 1, 0);
        c.due("link(-1)", x.link(-1), 0);
        c.included("nothing wanted", x);
        c.due("link(9)", x.link(9), SpanLinker.UNDEFINED);
        c.included("not there", x);
    }

    /** What is wanted changes inside of one pass. */
    private static void wantedThen(Check c) {
        SpanLinker x = new SpanLinker();
        c.export(x, 0, 1);
        c.write(x, 0, Check.s(Check.JUMP, 2, 0));
        c.export(x, 1, 2);
        c.export(x, 2, 1);
        c.export(x, 3, 2);
        for (int module = 0; module < 4; module++) {
            x.store(module, -1);
        }
        x.item(Check.ARCHIVE);
        c.due("link(1)", x.link(1), 0);
        c.included("the second export is not wanted", x, 0, 1);
        x.store(3, 0);
        c.due("link(1)", x.link(1), 0);
        c.included("3 was gone over before it was wanted", x, 0, 1);
        x.store(3, 1);
        c.due("link(1)", x.link(1), 0);
        c.included("3 comes first now", x, 0, 3);
    }

    private static void archiveOnTheLineTwice(Check c) {
        SpanLinker x = new SpanLinker();
        c.export(x, 0, 1);
        c.export(x, 1, 2);
        c.write(x, 2, Check.s(Check.ADDRESS, 1, 0));
        c.write(x, 3, Check.s(Check.ADDRESS, 2, 0));
        x.store(0, -1);
        x.store(1, -1);
        x.item(Check.ARCHIVE);
        x.item(2);
        c.due("the archive came too early", x.link(-1), SpanLinker.UNDEFINED);
        c.due("missing", x.missing(), 2);
        c.included("too early", x, 2);
        x.item(Check.ARCHIVE);
        x.item(3);
        c.due("once too early", x.link(-1), SpanLinker.UNDEFINED);
        c.due("missing", x.missing(), 4);
        x.item(Check.ARCHIVE);
        x.item(Check.ARCHIVE);
        c.due("found", x.link(-1), 0);
        c.included("in the order of the line", x, 2, 0, 3, 1);
    }

    private static void commonsStopTheSearch(Check c) {
        SpanLinker x = new SpanLinker();
        c.export(x, 0, 1);
        c.write(x, 1, Check.s(Check.COMMON, 1, 2));
        c.write(x, 2, Check.s(Check.GLOBAL, 1));
        x.store(0, -1);
        x.item(2);
        x.item(1);
        x.item(Check.ARCHIVE);
        c.due("link", x.link(1), 0);
        c.included("a COMMON is not wanted", x, 2, 1);
        x.newLine();
        x.item(2);
        x.item(Check.ARCHIVE);
        x.item(1);
        c.due("link", x.link(-1), 0);
        c.included("the COMMON came later", x, 2, 0, 1);
        x.newLine();
        x.remove(0);
        x.store(1, -1);
        x.item(2);
        x.item(Check.ARCHIVE);
        c.due("a COMMON is no export", x.link(-1), SpanLinker.UNDEFINED);
        c.included("the member with the COMMON stays out", x, 2);
    }

    private static void localNamesDoNotExport(Check c) {
        SpanLinker x = new SpanLinker();
        c.write(x, 0, Check.s(Check.LABEL, 1));
        c.write(x, 1, Check.s(Check.GLOBAL, 1));
        c.write(x, 2, Check.s(Check.GLOBAL, 1), Check.s(Check.VALUE, 1, 5));
        x.store(0, -1);
        x.store(1, -1);
        x.item(Check.ARCHIVE);
        c.due("a label that is not global, a global that is not defined", x.link(1), SpanLinker.UNDEFINED);
        c.included("none", x);
        x.store(2, -1);
        c.due("a global VALUE", x.link(1), 0);
        c.included("the VALUE's module", x, 2);
    }

    private static void doubles(Check c) {
        SpanLinker x = new SpanLinker();
        c.export(x, 0, 1);
        c.export(x, 1, 1);
        c.export(x, 1, 2);
        c.write(x, 2, Check.s(Check.LABEL, 1), Check.s(Check.COMMON, 2, 1));
        c.write(x, 3, Check.s(Check.ADDRESS, 2, 0), Check.s(Check.ADDRESS, 7, 0));
        x.item(0);
        x.item(2);
        c.due("a local label is no second", x.link(-1), 0);
        x.item(1);
        c.due("two exports", x.link(-1), SpanLinker.DOUBLE);
        c.included("double", x, 0, 2, 1);
        c.due("missing", x.missing(), 0);
        c.due("size", x.size(0), -1);
        x.item(3);
        c.due("DOUBLE goes before UNDEFINED", x.link(-1), SpanLinker.DOUBLE);
        c.due("missing is told all the same", x.missing(), 1 << 7);
        x.newLine();
        x.item(0);
        x.item(3);
        x.store(1, -1);
        x.item(Check.ARCHIVE);
        c.write(x, 0, Check.s(Check.COMMON, 7, 1));
        c.due("a member brings the second", x.link(-1), SpanLinker.DOUBLE);
        c.included("a member", x, 0, 3, 1);
        for (int k = 0; k < 6; k++) {
            c.write(x, 0, Check.s(Check.SPACE, 16));
            c.write(x, 3, Check.s(Check.SPACE, 16));
            c.write(x, 1, Check.s(Check.SPACE, 16));
        }
        c.due("DOUBLE goes before LONG", x.link(-1), SpanLinker.DOUBLE);
        x.clear(1);
        c.export(x, 1, 2);
        c.due("no longer double", x.link(-1), 0);
    }

    private static void tooLong(Check c) {
        SpanLinker x = new SpanLinker();
        for (int k = 0; k < 12; k++) {
            c.write(x, k % 3, Check.s(Check.SECTION, k % 3), Check.s(Check.SPACE, 16));
        }
        c.write(x, 3, Check.s(Check.COMMON, 0, 4), Check.s(Check.COMMON, 15, 4));
        for (int module = 0; module < 4; module++) {
            x.item(module);
        }
        c.due("200 words", x.link(-1), 0);
        c.due("the last", x.word(199), 0);
        c.due("no more", x.word(200), -1);
        c.write(x, 4, Check.s(Check.COMMON, 15, 5));
        x.item(4);
        c.due("201 words", x.link(-1), SpanLinker.LONG);
        c.due("no image", x.word(0), -1);
        c.due("no size", x.size(0), -1);
        c.due("missing", x.missing(), 0);
        c.included("long", x, 0, 1, 2, 3, 4);
        c.write(x, 4, Check.s(Check.ADDRESS, 9, 0));
        c.due("UNDEFINED goes before LONG", x.link(-1), SpanLinker.UNDEFINED);
        x.clear(4);
        c.due("200 again", x.link(-1), 0);
        c.write(x, 4, Check.s(Check.NUMBER, 1));
        c.due("201 by text", x.link(-1), SpanLinker.LONG);
        SpanLinker y = new SpanLinker();
        for (int module = 0; module < 6; module++) {
            for (int k = 0; k < 20; k++) {
                c.write(y, module, Check.s(Check.SPACE, 16));
            }
            y.item(module);
        }
        c.due("the longest of all", y.link(-1), SpanLinker.LONG);
        c.due("no start", y.start(), false);
    }

    private static void failedLinksTell(Check c) {
        SpanLinker x = new SpanLinker();
        c.export(x, 0, 1);
        c.write(x, 1, Check.s(Check.ADDRESS, 1, 0));
        x.item(0);
        x.item(1);
        c.due("link", x.link(-1), 0);
        x.newLine();
        x.item(1);
        c.due("link", x.link(0), SpanLinker.UNDEFINED);
        c.included("of the latest", x, 1);
        c.due("missing of the latest", x.missing(), 3);
        x.newLine();
        c.due("newLine does not change missing", x.missing(), 3);
        c.included("newLine", x, 1);
        c.due("link", x.link(-1), 0);
        c.due("missing of the latest", x.missing(), 0);
        c.included("none", x);
    }
}
