import java.util.ArrayList;
import java.util.Arrays;
import java.util.List;

/** The edges of the archive and the line: promises 6 (store), 7 (remove), 8 (member), 9 (item), 10 (newLine). */
public final class ArchiveEdgesTest extends Check {
    public static void main(String[] args) {
        ArchiveEdgesTest t = new ArchiveEdgesTest();
        t.storedAtTheEnd();
        t.storedInFront();
        t.takenFromWhereItIs();
        t.everyStore();
        t.storeNoModule();
        t.storeOnTheLine();
        t.storeBeforeNoMember();
        t.removeFromEachPlace();
        t.removeNoMember();
        t.memberNone();
        t.itemNone();
        t.eightItems();
        t.itemOnTheLine();
        t.itemInTheArchive();
        t.archiveSeveralTimes();
        t.emptyLine();
        t.lineIsMadeEmpty();
        t.inOneOrTheOther();
        t.end();
    }

    private SpanLinker withMembers(int... modules) {
        SpanLinker x = new SpanLinker();
        stores(x, modules);
        return x;
    }

    private void storedAtTheEnd() {
        sentence("Puts a module into the archive, .. or at the end when before is -1");
        SpanLinker x = new SpanLinker();
        members("empty", x);
        int[] order = {5, 0, 3, 1, 4, 2};
        for (int count = 1; count <= 6; count++) {
            due("store", x.store(order[count - 1], -1), true);
            members(count + " members", x, Arrays.copyOf(order, count));
        }
    }

    private void storedInFront() {
        sentence("Puts a module into the archive, in front of the member before");
        SpanLinker x = withMembers(3);
        due("store(0, 3)", x.store(0, 3), true);
        members("in front of the only one", x, 0, 3);
        due("store(5, 0)", x.store(5, 0), true);
        members("in front of the first", x, 5, 0, 3);
        due("store(1, 3)", x.store(1, 3), true);
        members("in front of the last", x, 5, 0, 1, 3);
        due("store(2, 0)", x.store(2, 0), true);
        members("in the middle", x, 5, 2, 0, 1, 3);
        due("store(4, 5)", x.store(4, 5), true);
        members("the sixth", x, 4, 5, 2, 0, 1, 3);
    }

    private void takenFromWhereItIs() {
        sentence("a member already is taken from where it is first");
        SpanLinker x = withMembers(2);
        due("the only one to the end", x.store(2, -1), true);
        members("one", x, 2);
        x = withMembers(0, 1, 2, 3, 4, 5);
        due("store(3, -1)", x.store(3, -1), true);
        members("all six, to the end", x, 0, 1, 2, 4, 5, 3);
        due("store(3, 0)", x.store(3, 0), true);
        members("all six, to the front", x, 3, 0, 1, 2, 4, 5);
        due("store(3, 0)", x.store(3, 0), true);
        members("where it is already", x, 3, 0, 1, 2, 4, 5);
        due("store(3, 5)", x.store(3, 5), true);
        members("behind where it was", x, 0, 1, 2, 4, 3, 5);
        due("store(5, -1)", x.store(5, -1), true);
        members("the last to the end", x, 0, 1, 2, 4, 3, 5);
    }

    /** Every pair of arguments near the edges, on archives of every length. */
    private void everyStore() {
        sentence("True; false, refused, when there is no such module, .. or before is neither -1 nor another member");
        int[] order = {4, 1, 0, 5, 3, 2};
        for (int count = 0; count <= 6; count++) {
            for (int module = -2; module <= 7; module++) {
                for (int before = -2; before <= 7; before++) {
                    oneStore(Arrays.copyOf(order, count), module, before);
                }
            }
        }
    }

    private void oneStore(int[] order, int module, int before) {
        SpanLinker x = withMembers(order);
        List<Integer> due = new ArrayList<>();
        for (int member : order) {
            due.add(member);
        }
        boolean taken = module >= 0 && module < 6 && before != module && (before == -1 || due.contains(before));
        if (taken) {
            due.remove(Integer.valueOf(module));
            due.add(before == -1 ? due.size() : due.indexOf(before), module);
        }
        String call = "store(" + module + ", " + before + ") to " + Arrays.toString(order);
        due(call, x.store(module, before), taken);
        int[] members = new int[due.size()];
        for (int k = 0; k < members.length; k++) {
            members[k] = due.get(k);
        }
        members(call, x, members);
    }

    private void storeNoModule() {
        sentence("false, refused, when there is no such module");
        SpanLinker x = withMembers(2, 5);
        for (int module : beside(0, 5)) {
            due("store(" + module + ", -1)", x.store(module, -1), false);
            due("store(" + module + ", 2)", x.store(module, 2), false);
        }
        members("refused", x, 2, 5);
    }

    private void storeOnTheLine() {
        sentence("false, refused, when .. it is on the line");
        SpanLinker x = withMembers(2, 5);
        items(x, 0, 6, 3);
        due("the first item, to the end", x.store(0, -1), false);
        due("the first item, in front", x.store(0, 2), false);
        due("the last item, to the end", x.store(3, -1), false);
        due("the last item, in front", x.store(3, 5), false);
        members("refused", x, 2, 5);
        due("one that is on neither", x.store(4, 5), true);
        due("a member, with the archive on the line", x.store(5, 2), true);
        members("stored", x, 5, 2, 4);
        x.newLine();
        due("no longer on the line", x.store(0, -1), true);
        members("stored", x, 5, 2, 4, 0);
    }

    private void storeBeforeNoMember() {
        sentence("false, refused, when .. before is neither -1 nor another member");
        SpanLinker x = withMembers(2, 5);
        items(x, 3);
        for (int before : beside(-1, 5)) {
            due("store(0, " + before + ")", x.store(0, before), false);
            due("store(2, " + before + ")", x.store(2, before), false);
        }
        due("in front of no member", x.store(0, 1), false);
        due("in front of one on the line", x.store(0, 3), false);
        due("in front of itself, no member", x.store(0, 0), false);
        due("in front of itself, the first", x.store(2, 2), false);
        due("in front of itself, the last", x.store(5, 5), false);
        due("a member in front of no member", x.store(5, 1), false);
        members("refused", x, 2, 5);
        due("remove(5)", x.remove(5), true);
        due("in front of one that was a member", x.store(0, 5), false);
        due("a removed one in front of itself", x.store(5, 5), false);
        members("refused", x, 2);
        SpanLinker empty = new SpanLinker();
        for (int before = 0; before < 6; before++) {
            due("into an empty archive", empty.store(0, before), false);
        }
        members("refused", empty);
    }

    private void removeFromEachPlace() {
        sentence("Takes a module out of the archive");
        int[] order = {5, 0, 3, 1, 4, 2};
        for (int count = 1; count <= 6; count++) {
            for (int place = 0; place < count; place++) {
                SpanLinker x = withMembers(Arrays.copyOf(order, count));
                due("remove(" + order[place] + ")", x.remove(order[place]), true);
                int[] rest = new int[count - 1];
                for (int k = 0; k < rest.length; k++) {
                    rest[k] = order[k < place ? k : k + 1];
                }
                members(place + " of " + count + " removed", x, rest);
                due("once only", x.remove(order[place]), false);
                members("once only", x, rest);
            }
        }
    }

    private void removeNoMember() {
        sentence("false when it is no member");
        SpanLinker x = new SpanLinker();
        for (int module = 0; module < 6; module++) {
            due("of an empty archive", x.remove(module), false);
        }
        stores(x, 0, 2);
        items(x, 3, 6);
        for (int module : beside(0, 5)) {
            due("remove(" + module + ")", x.remove(module), false);
        }
        due("on neither", x.remove(1), false);
        due("on the line", x.remove(3), false);
        members("nothing removed", x, 0, 2);
        due("it is on the line still", x.item(3), false);
        due("remove(0)", x.remove(0), true);
        due("remove(2)", x.remove(2), true);
        members("the last one is gone", x);
    }

    private void memberNone() {
        sentence("The member at place k (from 0) of the archive; -1 when there is none");
        for (int count = 0; count <= 6; count++) {
            SpanLinker x = new SpanLinker();
            for (int module = 0; module < count; module++) {
                x.store(5 - module, -1);
            }
            for (int k = -3; k < 10; k++) {
                due("member(" + k + ") of " + count, x.member(k), k >= 0 && k < count ? 5 - k : -1);
            }
            for (int k : beside(0, count - 1)) {
                due("member(" + k + ") of " + count, x.member(k), -1);
            }
        }
    }

    private void itemNone() {
        sentence("False, refused, when item is none of these");
        SpanLinker x = new SpanLinker();
        for (int item : beside(0, 6)) {
            due("item(" + item + ")", x.item(item), false);
        }
        due("link", x.link(-1), 0);
        included("nothing is on the line", x);
        for (int item = 0; item < 7; item++) {
            due("item(" + item + ")", x.item(item), true);
        }
    }

    private void eightItems() {
        sentence("the LINE a list of at most eight ITEMS / False, refused, when .. eight stand there");
        SpanLinker x = new SpanLinker();
        items(x, 0, 6, 1, 2, 6, 3, 4);
        items(x, 5);
        due("the ninth, the archive", x.item(6), false);
        due("link", x.link(-1), 0);
        included("eight items", x, 0, 1, 2, 3, 4, 5);
        SpanLinker y = new SpanLinker();
        items(y, 6, 6, 6, 6, 6, 6, 6, 3);
        for (int item = 0; item < 7; item++) {
            due("item(" + item + ") as the ninth", y.item(item), false);
        }
        due("link", y.link(-1), 0);
        included("one module", y, 3);
        for (int module = 0; module < 6; module++) {
            due("what was refused is not on the line", y.store(module, -1), module != 3);
        }
    }

    private void itemOnTheLine() {
        sentence("False, refused, when .. it is a module that is on the line");
        SpanLinker x = new SpanLinker();
        for (int module = 0; module < 6; module++) {
            items(x, module);
            for (int on = 0; on <= module; on++) {
                due("item(" + on + ") again", x.item(on), false);
            }
        }
        items(x, 6, 6);
        due("link", x.link(-1), 0);
        included("each once", x, 0, 1, 2, 3, 4, 5);
    }

    private void itemInTheArchive() {
        sentence("False, refused, when .. it is a module that is .. in the archive");
        SpanLinker x = withMembers(5, 2, 0);
        due("the first member", x.item(5), false);
        due("a member", x.item(2), false);
        due("the last member", x.item(0), false);
        due("the archive itself", x.item(6), true);
        due("a member, with the archive on the line", x.item(2), false);
        due("no member", x.item(1), true);
        members("as they were", x, 5, 2, 0);
        due("remove(2)", x.remove(2), true);
        due("no longer a member", x.item(2), true);
        due("and on the line now", x.store(2, -1), false);
        due("link", x.link(-1), 0);
        included("on the line", x, 1, 2);
    }

    private void archiveSeveralTimes() {
        sentence("the archive may stand on the line several times");
        SpanLinker x = new SpanLinker();
        for (int k = 0; k < 8; k++) {
            due("item(6) number " + k, x.item(6), true);
        }
        due("item(6) number 8", x.item(6), false);
        export(x, 0, 1);
        stores(x, 0);
        due("link(1)", x.link(1), 0);
        included("a member is included once", x, 0);
    }

    private void emptyLine() {
        sentence("Makes the line empty: one that is empty");
        SpanLinker x = new SpanLinker();
        x.newLine();
        x.newLine();
        due("link", x.link(-1), 0);
        included("nothing", x);
        items(x, 0, 1, 2, 3, 4, 5, 6, 6);
        due("the ninth", x.item(6), false);
    }

    private void lineIsMadeEmpty() {
        sentence("Makes the line empty: one that is full");
        SpanLinker x = new SpanLinker();
        write(x, 0, s(NUMBER, 7));
        stores(x, 5);
        items(x, 0, 1, 2, 3, 4, 6, 6, 6);
        due("link", x.link(-1), 0);
        due("start", x.start(), true);
        x.newLine();
        included("the latest link stays", x, 0, 1, 2, 3, 4);
        words("the image stays", x, 7);
        due("the machine stays", x.memory(0), 7);
        due("the statements stay", x.length(0, TEXT), 1);
        members("the archive stays", x, 5);
        items(x, 4, 3, 2, 1, 0, 6, 6, 6);
        due("the ninth", x.item(6), false);
        due("link", x.link(-1), 0);
        included("the new line", x, 4, 3, 2, 1, 0);
        x.newLine();
        due("link", x.link(-1), 0);
        included("nothing", x);
        sizes("nothing", x, 0, 0, 0);
        stores(x, 0, 1, 2, 3, 4);
        members("all are free", x, 5, 0, 1, 2, 3, 4);
    }

    private void inOneOrTheOther() {
        sentence("A module stands in the archive or on the line or in neither, and not twice");
        SpanLinker x = new SpanLinker();
        for (int round = 0; round < 3; round++) {
            for (int module = 0; module < 6; module++) {
                due("onto the line", x.item(module), true);
                due("not into the archive too", x.store(module, -1), false);
            }
            x.newLine();
            for (int module = 0; module < 6; module++) {
                due("into the archive", x.store(module, -1), true);
                due("not onto the line too", x.item(module), false);
            }
            members("all six", x, 0, 1, 2, 3, 4, 5);
            for (int module = 0; module < 6; module++) {
                due("out of the archive", x.remove(module), true);
            }
            members("none", x);
        }
    }
}
