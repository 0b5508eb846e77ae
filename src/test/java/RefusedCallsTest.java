import java.util.LinkedHashMap;
import java.util.Map;
import java.util.function.Consumer;
import java.util.function.ToIntFunction;

/**
 * "A call that is refused changes nothing", for each promise: one of two twins refuses a call, and
 * then both must answer alike, also to calls that change them.
 */
public final class RefusedCallsTest extends Twins {
    /** An object has 512 calls only, so that each look needs twins of its own. */
    private static final Look[] LOOKS = {
        Twins::everything, Twins::writeOn, Twins::linkOn, Twins::runOn, Twins::startOn,
    };

    private final Map<String, ToIntFunction<SpanLinker>> refused = new LinkedHashMap<>();

    public static void main(String[] args) {
        RefusedCallsTest t = new RefusedCallsTest();
        t.sentence("A call that is refused changes nothing");
        t.ofANewObject();
        t.whileModulesAreWritten();
        t.whenTheLineIsFull();
        t.whenTheArchiveIsFull();
        t.afterAFailedLink();
        t.whenThereIsAnImage();
        t.whenItIsStripped();
        t.whenTheMachineRuns();
        t.whenTheTapeIsFull();
        t.whenTheMachineHasEnded();
        t.end();
    }

    private void refusesAdd(int module, int kind, int a, int b) {
        refused.put("add(" + module + ", " + kind + ", " + a + ", " + b + ")", x -> asInt(x.add(module, kind, a, b)));
    }

    private void refusesStore(int module, int before) {
        refused.put("store(" + module + ", " + before + ")", x -> asInt(x.store(module, before)));
    }

    private void refusesRemove(int module) {
        refused.put("remove(" + module + ")", x -> asInt(x.remove(module)));
    }

    private void refusesItem(int item) {
        refused.put("item(" + item + ")", x -> asInt(x.item(item)));
    }

    private void refusesFeed(int v) {
        refused.put("feed(" + v + ")", x -> asInt(x.feed(v)));
    }

    private void refusesRun(int n) {
        refused.put("run(" + n + ")", x -> x.run(n));
    }

    private void refusesStart() {
        refused.put("start()", x -> asInt(x.start()));
    }

    private void refusesStrip() {
        refused.put("strip()", x -> asInt(x.strip()));
    }

    /** What every object refuses, whatever its state. */
    private void refusesAlways() {
        for (int module : beside(0, 5)) {
            for (int kind = 0; kind < 9; kind++) {
                refusesAdd(module, kind, 1, 1);
            }
            refused.put("clear(" + module + ")", x -> x.clear(module));
            refusesStore(module, -1);
            refusesRemove(module);
        }
        for (int module = 0; module < 6; module++) {
            refusesStore(module, module);
            refusesStore(module, -2);
            refusesStore(module, 6);
            refusesWrongStatements(module);
        }
        for (int item : beside(0, 6)) {
            refusesItem(item);
        }
        for (int want : beside(-1, 15)) {
            refused.put("link(" + want + ")", x -> x.link(want));
        }
        for (int v : beside(0, 65535)) {
            refusesFeed(v);
        }
        for (int n : beside(0, 1000)) {
            refusesRun(n);
        }
    }

    private void refusesWrongStatements(int module) {
        for (int kind : beside(0, 8)) {
            refusesAdd(module, kind, 1, 1);
        }
        int[] naming = {LABEL, GLOBAL, ADDRESS, JUMP, COMMON, VALUE};
        for (int kind : naming) {
            refusesAdd(module, kind, -1, 1);
            refusesAdd(module, kind, 16, 1);
        }
        refusesAdd(module, SECTION, -1, 0);
        refusesAdd(module, SECTION, 3, 0);
        refusesAdd(module, NUMBER, -1, 0);
        refusesAdd(module, NUMBER, 65536, 0);
        refusesAdd(module, SPACE, 0, 0);
        refusesAdd(module, SPACE, 17, 0);
        // Name 14 is held by no module, so that nothing but b is wrong.
        refusesAdd(module, ADDRESS, 14, -32769);
        refusesAdd(module, ADDRESS, 14, 32768);
        refusesAdd(module, JUMP, 14, -1);
        refusesAdd(module, JUMP, 14, 4);
        refusesAdd(module, COMMON, 14, 0);
        refusesAdd(module, COMMON, 14, 17);
        refusesAdd(module, VALUE, 14, -1);
        refusesAdd(module, VALUE, 14, 65536);
    }

    private void refusesWithoutImage() {
        refusesStart();
        refusesStrip();
    }

    private void refusesWithoutMachine() {
        refusesFeed(0);
        refusesFeed(65535);
        refusesRun(0);
        refusesRun(1000);
    }

    /** Every refused call that was noted, in this state; forgets them then. */
    private void changeNothing(String state, Consumer<SpanLinker> toTheState) {
        refusesAlways();
        for (Map.Entry<String, ToIntFunction<SpanLinker>> call : refused.entrySet()) {
            String name = state + ": " + call.getKey();
            for (Look look : LOOKS) {
                due(name, alike(name, toTheState, call.getValue(), look), -1);
            }
        }
        refused.clear();
    }

    private void ofANewObject() {
        for (int module = 0; module < 6; module++) {
            refusesRemove(module);
            refusesStore(module, (module + 1) % 6);
        }
        refusesWithoutImage();
        refusesWithoutMachine();
        changeNothing("new", x -> { });
    }

    private void whileModulesAreWritten() {
        for (int kind = 0; kind < 9; kind++) {
            refusesAdd(1, kind, 1, 1);
            refusesAdd(1, kind, 2, 2);
            refusesAdd(1, kind, 10, 1);
            refusesAdd(1, kind, 15, 1);
        }
        int[] holding = {LABEL, COMMON, VALUE};
        int[] seconds = {1, 16};
        for (int kind : holding) {
            for (int b : seconds) {
                refusesAdd(0, kind, 0, b);
                refusesAdd(0, kind, 2, b);
                refusesAdd(0, kind, 3, b);
                refusesAdd(2, kind, 1, b);
                refusesAdd(2, kind, 4, b);
                refusesAdd(3, kind, 5, b);
            }
        }
        refusesAdd(2, NUMBER, 1, 0);
        refusesAdd(2, ADDRESS, 15, 0);
        refusesAdd(2, JUMP, 15, 0);
        refusesAdd(3, JUMP, 15, 0);
        refusesStore(0, -1);
        refusesStore(3, 2);
        refusesStore(1, 4);
        refusesStore(5, 0);
        refusesStore(5, 1);
        refusesStore(4, 5);
        refusesStore(2, 3);
        refusesRemove(0);
        refusesRemove(1);
        refusesItem(0);
        refusesItem(1);
        refusesItem(3);
        refusesItem(4);
        refusesItem(2);
        refusesWithoutImage();
        refusesWithoutMachine();
        changeNothing("written", this::writeModules);
    }

    private void whenTheLineIsFull() {
        for (int item = 0; item < 7; item++) {
            refusesItem(item);
        }
        refusesStore(0, -1);
        refusesStore(5, -1);
        refusesStore(5, 4);
        changeNothing("the line is full", x -> {
            export(x, 4, 7);
            stores(x, 4, 1);
            items(x, 0, 6, 2, 6, 3, 6, 6, 5);
        });
    }

    private void whenTheArchiveIsFull() {
        for (int module = 0; module < 6; module++) {
            refusesItem(module);
        }
        changeNothing("the archive is full", x -> {
            stores(x, 3, 1, 5, 0, 2, 4);
            items(x, 6);
            export(x, 2, 7);
            write(x, 2, s(ADDRESS, 8, 0));
            export(x, 5, 8);
        });
    }

    private void afterAFailedLink() {
        refusesWithoutImage();
        refusesWithoutMachine();
        changeNothing("UNDEFINED", x -> {
            writeModules(x);
            due("link", x.link(12), SpanLinker.UNDEFINED);
        });
        refusesWithoutImage();
        refusesWithoutMachine();
        changeNothing("DOUBLE", x -> {
            writeModules(x);
            export(x, 5, 0);
            items(x, 5);
            due("link", x.link(13), SpanLinker.DOUBLE);
        });
        refusesWithoutImage();
        refusesWithoutMachine();
        changeNothing("LONG", x -> {
            writeModules(x);
            space(x, 5, 200);
            items(x, 5);
            due("link", x.link(-1), SpanLinker.LONG);
        });
    }

    private void whenThereIsAnImage() {
        refusesWithoutMachine();
        changeNothing("an image", x -> {
            writeModules(x);
            due("link", x.link(0), 0);
        });
    }

    private void whenItIsStripped() {
        refusesWithoutMachine();
        refusesStrip();
        changeNothing("stripped", x -> {
            writeModules(x);
            due("link", x.link(0), 0);
            due("strip", x.strip(), true);
        });
    }

    private void whenTheMachineRuns() {
        changeNothing("running", this::startLoop);
    }

    private void whenTheTapeIsFull() {
        refusesFeed(0);
        refusesFeed(7);
        refusesFeed(65535);
        changeNothing("a full tape", x -> {
            startLoop(x);
            for (int v = 1; v <= 4; v++) {
                due("feed", x.feed(v), true);
            }
        });
    }

    private void whenTheMachineHasEnded() {
        int[] ends = {0, 14 * OP, 2 * OP};
        for (int end : ends) {
            changeNothing("ended by " + end, x -> {
                write(x, 0, s(NUMBER, OP), s(NUMBER, 300), s(NUMBER, 10 * OP), s(NUMBER, end), s(NUMBER, 300));
                linkAndStart(x, -1, 0);
                due("feed", x.feed(5), true);
                due("run", x.run(1000), end == 0 ? 3 : 2);
            });
        }
    }
}
