/** Promises 6 (store), 7 (remove), 8 (member), 9 (item) and 10 (newLine). */
public final class ArchiveAndLineTest {
    private static final int[] NO_MODULES = {-2, -1, 6, 7, Integer.MIN_VALUE, Integer.MAX_VALUE};

    public static void main(String[] args) {
        Check c = new Check();
        storing(c);
        movingMembers(c);
        refusedStores(c);
        removing(c);
        items(c);
        emptyingTheLine(c);
        c.end();
    }

    private static void storing(Check c) {
        SpanLinker x = new SpanLinker();
        c.due("store(3, -1)", x.store(3, -1), true);
        c.due("store(0, -1)", x.store(0, -1), true);
        c.members("at the end", x, 3, 0);
        c.due("store(5, 3)", x.store(5, 3), true);
        c.due("store(1, 0)", x.store(1, 0), true);
        c.members("in front", x, 5, 3, 1, 0);
        c.due("store(2, 1)", x.store(2, 1), true);
        c.due("store(4, -1)", x.store(4, -1), true);
        c.members("all six", x, 5, 3, 2, 1, 0, 4);
    }

    private static void movingMembers(Check c) {
        SpanLinker x = new SpanLinker();
        for (int module = 0; module < 6; module++) {
            x.store(module, -1);
        }
        c.due("store(0, -1)", x.store(0, -1), true);
        c.members("to the end", x, 1, 2, 3, 4, 5, 0);
        c.due("store(0, -1) again", x.store(0, -1), true);
        c.members("stays at the end", x, 1, 2, 3, 4, 5, 0);
        c.due("store(5, 2)", x.store(5, 2), true);
        c.members("forward", x, 1, 5, 2, 3, 4, 0);
        c.due("store(5, 0)", x.store(5, 0), true);
        c.members("backward", x, 1, 2, 3, 4, 5, 0);
        c.due("store(1, 2)", x.store(1, 2), true);
        c.members("in front of its neighbour", x, 1, 2, 3, 4, 5, 0);
        c.due("store(0, 1)", x.store(0, 1), true);
        c.members("to the front", x, 0, 1, 2, 3, 4, 5);
    }

    private static void refusedStores(Check c) {
        SpanLinker x = new SpanLinker();
        x.store(2, -1);
        x.store(4, -1);
        x.item(1);
        for (int module : NO_MODULES) {
            c.due("store(" + module + ", -1)", x.store(module, -1), false);
            c.due("store(" + module + ", 2)", x.store(module, 2), false);
        }
        c.due("on the line", x.store(1, -1), false);
        c.due("on the line, in front of 2", x.store(1, 2), false);
        c.due("in front of no member", x.store(3, 0), false);
        c.due("in front of what is on the line", x.store(3, 1), false);
        c.due("in front of itself, no member", x.store(3, 3), false);
        c.due("in front of itself, a member", x.store(2, 2), false);
        c.due("a member in front of no member", x.store(2, 5), false);
        c.due("in front of -2", x.store(3, -2), false);
        c.due("in front of 6", x.store(3, 6), false);
        c.due("in front of MAX", x.store(3, Integer.MAX_VALUE), false);
        c.members("after refusals", x, 2, 4);
    }

    private static void removing(Check c) {
        SpanLinker x = new SpanLinker();
        for (int module = 0; module < 5; module++) {
            x.store(module, -1);
        }
        x.item(5);
        for (int module : NO_MODULES) {
            c.due("remove(" + module + ")", x.remove(module), false);
        }
        c.due("remove what is on the line", x.remove(5), false);
        c.due("remove(2)", x.remove(2), true);
        c.members("without 2", x, 0, 1, 3, 4);
        c.due("remove(2) again", x.remove(2), false);
        c.due("remove(0)", x.remove(0), true);
        c.due("remove(4)", x.remove(4), true);
        c.members("without 0 and 4", x, 1, 3);
        c.due("in front of a removed one", x.store(0, 4), false);
        c.due("remove(1)", x.remove(1), true);
        c.due("remove(3)", x.remove(3), true);
        c.members("empty", x);
        c.due("store again", x.store(2, -1), true);
        c.members("one", x, 2);
        c.due("a removed one keeps its statements", x.add(2, Check.NUMBER, 1, 0), true);
        x.remove(2);
        c.due("its length", x.length(2, 0), 1);
    }

    private static void items(Check c) {
        SpanLinker x = new SpanLinker();
        int[] none = {-1, 7, 8, Integer.MIN_VALUE, Integer.MAX_VALUE};
        for (int item : none) {
            c.due("item(" + item + ")", x.item(item), false);
        }
        x.store(4, -1);
        c.due("item(4) in the archive", x.item(4), false);
        c.due("item(2)", x.item(2), true);
        c.due("item(2) again", x.item(2), false);
        c.due("item(0)", x.item(0), true);
        c.due("item(6)", x.item(6), true);
        c.due("item(6) again", x.item(6), true);
        c.due("item(5)", x.item(5), true);
        c.due("item(1)", x.item(1), true);
        c.due("item(6) a third time", x.item(6), true);
        c.due("the eighth", x.item(6), true);
        c.due("the ninth, archive", x.item(6), false);
        c.due("the ninth, module", x.item(3), false);
        c.due("3 is still free", x.store(3, 4), true);
        c.due("link", x.link(-1), 0);
        int[] order = {2, 0, 5, 1};
        for (int k = 0; k < order.length; k++) {
            c.due("included(" + k + ")", x.included(k), order[k]);
        }
        c.due("included(4)", x.included(4), -1);
    }

    private static void emptyingTheLine(Check c) {
        SpanLinker x = new SpanLinker();
        x.newLine();
        c.write(x, 1, Check.s(Check.NUMBER, 3));
        x.store(2, -1);
        x.item(1);
        x.item(6);
        c.due("link", x.link(-1), 0);
        c.due("start", x.start(), true);
        x.newLine();
        c.due("the archive stays", x.member(0), 2);
        c.due("the image stays", x.word(0), 3);
        c.due("the machine stays", x.memory(0), 3);
        c.due("what was included stays", x.included(0), 1);
        c.due("a module is free", x.store(1, 2), true);
        c.due("link of an empty line", x.link(-1), 0);
        c.due("nothing is included", x.included(0), -1);
        for (int k = 0; k < 8; k++) {
            c.due("room for eight", x.item(6), true);
        }
        c.due("and no more", x.item(6), false);
        x.newLine();
        c.due("room again", x.item(0), true);
    }
}
