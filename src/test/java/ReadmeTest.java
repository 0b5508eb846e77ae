/** The examples of README.md, call by call: what is said beside them must stay true. */
public final class ReadmeTest {
    public static void main(String[] args) {
        Check c = new Check();
        oneModule(c);
        archiveJumpAndTape(c);
        c.end();
    }

    private static void oneModule(Check c) {
        SpanLinker x = new SpanLinker();
        c.write(x, 0, new int[][] {
            {1, 0, 0}, {0, 0, 0}, {3, 4096, 0}, {3, 5, 0}, {3, 40960, 0}, {3, 0, 0}});
        c.due("item(0)", x.item(0), true);
        c.due("link(0)", x.link(0), 0);
        c.due("start()", x.start(), true);
        c.due("run(100)", x.run(100), 3);
        c.due("register(5)", x.register(5), 5);
    }

    private static void archiveJumpAndTape(Check c) {
        SpanLinker x = new SpanLinker();
        c.write(x, 0, new int[][] {
            {1, 0, 0}, {0, 0, 0}, {3, 45056, 0}, {3, 24576, 0}, {4, 1, 0}, {3, 40960, 0}, {6, 0, 3},
            {3, 0, 0}});
        c.write(x, 1, new int[][] {
            {1, 1, 0}, {0, 1, 0}, {3, 16384, 0}, {4, 2, 0}, {3, 28672, 0}, {2, 1, 0}, {0, 2, 0},
            {3, 7, 0}});
        c.due("isLong(0, 6)", x.isLong(0, 6), false);
        c.due("item(0)", x.item(0), true);
        c.due("store(1, -1)", x.store(1, -1), true);
        c.due("link(0) without the archive", x.link(0), SpanLinker.UNDEFINED);
        c.due("missing()", x.missing(), 2);
        c.due("item(6)", x.item(6), true);
        c.due("link(0)", x.link(0), 0);
        c.due("included(1)", x.included(1), 1);
        c.due("symbol(1)", x.symbol(1), 6);
        c.due("start()", x.start(), true);
        c.due("feed(5)", x.feed(5), true);
        c.due("feed(65529)", x.feed(65529), true);
        c.due("run(1000)", x.run(1000), 13);
        c.due("register(3)", x.register(3), Check.HALTED);
        c.due("register(4)", x.register(4), 2);
        c.due("register(5)", x.register(5), 0);
        c.due("register(6)", x.register(6), 12);
    }
}
