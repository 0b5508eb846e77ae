/** Promise 1: what an object answers that has just been made. */
public final class NewObjectTest {
    public static void main(String[] args) {
        Check c = new Check();
        noStatements(c);
        nothingStands(c);
        noImageAndNoMachine(c);
        objectsAreApart(c);
        c.due("DOUBLE", SpanLinker.DOUBLE, -2);
        c.due("UNDEFINED", SpanLinker.UNDEFINED, -3);
        c.due("LONG", SpanLinker.LONG, -4);
        c.end();
    }

    private static void noStatements(Check c) {
        SpanLinker x = new SpanLinker();
        for (int module = 0; module < 6; module++) {
            for (int section = 0; section < 3; section++) {
                c.due("length", x.length(module, section), 0);
            }
            c.due("isLong", x.isLong(module, 0), false);
            c.due("clear", x.clear(module), 0);
        }
    }

    private static void nothingStands(Check c) {
        SpanLinker x = new SpanLinker();
        c.due("member(0)", x.member(0), -1);
        for (int module = 0; module < 6; module++) {
            c.due("remove", x.remove(module), false);
        }
        c.due("included(0)", x.included(0), -1);
        c.due("missing()", x.missing(), 0);
        c.due("link(-1) of an empty line", x.link(-1), 0);
        c.due("included(0) of an empty line", x.included(0), -1);
    }

    private static void noImageAndNoMachine(Check c) {
        SpanLinker x = new SpanLinker();
        c.due("size(0)", x.size(0), -1);
        c.due("word(0)", x.word(0), -1);
        c.due("symbol(0)", x.symbol(0), -1);
        c.due("strip()", x.strip(), false);
        c.due("start()", x.start(), false);
        c.due("feed(0)", x.feed(0), false);
        c.due("run(0)", x.run(0), -1);
        for (int k = 0; k < 9; k++) {
            c.due("register(" + k + ")", x.register(k), -1);
        }
        c.due("memory(0)", x.memory(0), -1);
    }

    private static void objectsAreApart(Check c) {
        SpanLinker x = new SpanLinker();
        x.add(0, Check.NUMBER, 1, 0);
        x.store(1, -1);
        x.item(0);
        x.link(-1);
        x.start();
        SpanLinker y = new SpanLinker();
        c.due("length of the other", y.length(0, 0), 0);
        c.due("member of the other", y.member(0), -1);
        c.due("word of the other", y.word(0), -1);
        c.due("memory of the other", y.memory(0), -1);
    }
}
