import java.util.ArrayList;
import java.util.LinkedHashMap;
import java.util.List;
import java.util.Map;
import java.util.function.Consumer;
import java.util.function.ToIntFunction;

/**
 * "A call that is refused changes nothing", for each promise: two objects are brought into the same
 * state, one of them refuses a call, and then both must answer alike, also to calls that change them.
 */
public final class RefusedCallsTest extends Check {
    private static final int OP = 4096;

    private final Map<String, ToIntFunction<SpanLinker>> refused = new LinkedHashMap<>();

    public static void main(String[] args) {
        RefusedCallsTest t = new RefusedCallsTest();
        t.sentence("A call that is refused changes nothing");
        t.ofANewObject();
        t.whileModulesAreWritten();
        t.whenTheLineIsFull();
        t.whenTheArchiveIsFull();
        t.afterAFailedLink();
        t.whenThereIsAnImage();
        t.whenItIsStripped();
        t.whenTheMachineRuns();
        t.whenTheTapeIsFull();
        t.whenTheMachineHasEnded();
        t.end();
    }

    /** A refusal is -1 then, as it is where the answer is a number. */
    private static int asInt(boolean answer) {
        return answer ? 1 : -1;
    }

    private void refusesAdd(int module, int kind, int a, int b) {
        refused.put("add(" + module + ", " + kind + ", " + a + ", " + b + ")", x -> asInt(x.add(module, kind, a, b)));
    }

    private void refusesStore(int module, int before) {
        refused.put("store(" + module + ", " + before + ")", x -> asInt(x.store(module, before)));
    }

    private void refusesRemove(int module) {
        refused.put("remove(" + module + ")", x -> asInt(x.remove(module)));
    }

    private void refusesItem(int item) {
        refused.put("item(" + item + ")", x -> asInt(x.item(item)));
    }

    private void refusesFeed(int v) {
        refused.put("feed(" + v + ")", x -> asInt(x.feed(v)));
    }

    private void refusesRun(int n) {
        refused.put("run(" + n + ")", x -> x.run(n));
    }

    private void refusesStart() {
        refused.put("start()", x -> asInt(x.start()));
    }

    private void refusesStrip() {
        refused.put("strip()", x -> asInt(x.strip()));
    }

    /** What every object refuses, whatever its state. */
    private void refusesAlways() {
        for (int module : beside(0, 5)) {
            for (int kind = 0; kind < 9; kind++) {
                refusesAdd(module, kind, 1, 1);
            }
            refused.put("clear(" + module + ")", x -> x.clear(module));
            refusesStore(module, -1);
            refusesRemove(module);
        }
        for (int module = 0; module < 6; module++) {
            refusesStore(module, module);
            refusesStore(module, -2);
            refusesStore(module, 6);
            refusesWrongStatements(module);
        }
        for (int item : beside(0, 6)) {
            refusesItem(item);
        }
        for (int want : beside(-1, 15)) {
            refused.put("link(" + want + ")", x -> x.link(want));
        }
        for (int v : beside(0, 65535)) {
            refusesFeed(v);
        }
        for (int n : beside(0, 1000)) {
            refusesRun(n);
        }
    }

    private void refusesWrongStatements(int module) {
        for (int kind : beside(0, 8)) {
            refusesAdd(module, kind, 1, 1);
        }
        int[] naming = {LABEL, GLOBAL, ADDRESS, JUMP, COMMON, VALUE};
        for (int kind : naming) {
            refusesAdd(module, kind, -1, 1);
            refusesAdd(module, kind, 16, 1);
        }
        refusesAdd(module, SECTION, -1, 0);
        refusesAdd(module, SECTION, 3, 0);
        refusesAdd(module, NUMBER, -1, 0);
        refusesAdd(module, NUMBER, 65536, 0);
        refusesAdd(module, SPACE, 0, 0);
        refusesAdd(module, SPACE, 17, 0);
        // Name 14 is held by no module, so that nothing but b is wrong.
        refusesAdd(module, ADDRESS, 14, -32769);
        refusesAdd(module, ADDRESS, 14, 32768);
        refusesAdd(module, JUMP, 14, -1);
        refusesAdd(module, JUMP, 14, 4);
        refusesAdd(module, COMMON, 14, 0);
        refusesAdd(module, COMMON, 14, 17);
        refusesAdd(module, VALUE, 14, -1);
        refusesAdd(module, VALUE, 14, 65536);
    }

    private void refusesWithoutImage() {
        refusesStart();
        refusesStrip();
    }

    private void refusesWithoutMachine() {
        refusesFeed(0);
        refusesFeed(65535);
        refusesRun(0);
        refusesRun(1000);
    }

    /** Every refused call that was noted, in this state; forgets them then. */
    private void changeNothing(String state, Consumer<SpanLinker> toTheState) {
        refusesAlways();
        for (Map.Entry<String, ToIntFunction<SpanLinker>> call : refused.entrySet()) {
            for (int look = 0; look < 4; look++) {
                SpanLinker x = new SpanLinker();
                SpanLinker y = new SpanLinker();
                toTheState.accept(x);
                toTheState.accept(y);
                String name = state + ": " + call.getKey();
                due(name, call.getValue().applyAsInt(x), -1);
                alike(name, answersOf(x, look), answersOf(y, look));
            }
        }
        refused.clear();
    }

    private void alike(String name, List<String> got, List<String> want) {
        for (int k = 0; k < want.size(); k++) {
            if (!got.get(k).equals(want.get(k))) {
                tell(name + " changed " + want.get(k) + " to " + got.get(k));
                return;
            }
        }
    }

    /** The calls after the refused one: four rows of them, since an object has 512 calls only. */
    private static List<String> answersOf(SpanLinker x, int look) {
        List<String> answers = new ArrayList<>();
        switch (look) {
            case 0:
                lookAround(x, answers);
                break;
            case 1:
                writeOn(x, answers);
                break;
            case 2:
                linkOn(x, answers);
                break;
            default:
                runOn(x, answers);
                break;
        }
        return answers;
    }

    private static void note(List<String> answers, String call, int answer) {
        answers.add(call + " = " + answer);
    }

    private static void lookAround(SpanLinker x, List<String> answers) {
        for (int module = 0; module < 6; module++) {
            for (int section = 0; section < 3; section++) {
                note(answers, "length(" + module + ", " + section + ")", x.length(module, section));
            }
            for (int k = 0; k < 21; k++) {
                note(answers, "isLong(" + module + ", " + k + ")", asInt(x.isLong(module, k)));
            }
        }
        for (int k = 0; k < 7; k++) {
            note(answers, "member(" + k + ")", x.member(k));
            note(answers, "included(" + k + ")", x.included(k));
        }
        note(answers, "missing()", x.missing());
        for (int k = 0; k < 16; k++) {
            note(answers, "size(" + k + ")", x.size(k));
            note(answers, "symbol(" + k + ")", x.symbol(k));
            note(answers, "register(" + k + ")", x.register(k));
        }
        for (int address = 0; address < 40; address++) {
            note(answers, "word(" + address + ")", x.word(address));
            note(answers, "memory(" + address + ")", x.memory(address));
        }
    }

    /** Tells each module's section, the names it holds and how many statements it has. */
    private static void writeOn(SpanLinker x, List<String> answers) {
        for (int module = 0; module < 6; module++) {
            note(answers, "add(" + module + ", JUMP)", asInt(x.add(module, JUMP, 3, 0)));
            note(answers, "add(" + module + ", NUMBER)", asInt(x.add(module, NUMBER, 3, 0)));
            for (int name = 0; name < 16; name++) {
                note(answers, "add(" + module + ", LABEL, " + name + ")", asInt(x.add(module, LABEL, name, 0)));
            }
            note(answers, "length(" + module + ", 0)", x.length(module, TEXT));
            note(answers, "clear(" + module + ")", x.clear(module));
            note(answers, "add(" + module + ", JUMP)", asInt(x.add(module, JUMP, 3, 0)));
            for (int name = 0; name < 16; name++) {
                note(answers, "add(" + module + ", LABEL, " + name + ")", asInt(x.add(module, LABEL, name, 0)));
            }
            note(answers, "clear(" + module + ")", x.clear(module));
        }
    }

    /** Tells what stands on the line, and what names the modules export and refer to. */
    private static void linkOn(SpanLinker x, List<String> answers) {
        for (int want = -1; want < 16; want++) {
            note(answers, "link(" + want + ")", x.link(want));
            note(answers, "missing()", x.missing());
            for (int k = 0; k < 6; k++) {
                note(answers, "included(" + k + ")", x.included(k));
            }
            note(answers, "size(2)", x.size(BSS));
            note(answers, "symbol(" + want + ")", x.symbol(want));
        }
        for (int item = 0; item < 7; item++) {
            note(answers, "item(" + item + ")", asInt(x.item(item)));
        }
        for (int k = 0; k < 9; k++) {
            note(answers, "item(6)", asInt(x.item(6)));
        }
        for (int module = 0; module < 6; module++) {
            note(answers, "store(" + module + ", -1)", asInt(x.store(module, -1)));
            note(answers, "remove(" + module + ")", asInt(x.remove(module)));
        }
    }

    /** Tells the machine's tape, and whether the image can still be stripped and started. */
    private static void runOn(SpanLinker x, List<String> answers) {
        for (int k = 0; k < 3; k++) {
            note(answers, "feed(" + k + ")", asInt(x.feed(k)));
        }
        for (int round = 0; round < 8; round++) {
            note(answers, "run(" + round + ")", x.run(round));
            for (int k = 0; k < 9; k++) {
                note(answers, "register(" + k + ")", x.register(k));
            }
        }
        for (int k = 0; k < 9; k++) {
            note(answers, "feed(" + k + ")", asInt(x.feed(k)));
        }
        note(answers, "strip()", asInt(x.strip()));
        note(answers, "start()", asInt(x.start()));
        note(answers, "run(1000)", x.run(1000));
        for (int k = 0; k < 9; k++) {
            note(answers, "register(" + k + ")", x.register(k));
        }
        for (int address = 0; address < 40; address++) {
            note(answers, "memory(" + address + ")", x.memory(address));
        }
    }

    private void ofANewObject() {
        for (int module = 0; module < 6; module++) {
            refusesRemove(module);
            refusesStore(module, (module + 1) % 6);
        }
        refusesWithoutImage();
        refusesWithoutMachine();
        changeNothing("new", x -> { });
    }

    /** Module 1 is full, 2 is in bss, 3 in data; 4 and 2 are in the archive, 0 and 3 on the line. */
    private void writeModules(SpanLinker x) {
        write(x, 0, s(LABEL, 0), s(GLOBAL, 0), s(JUMP, 1, 1), s(ADDRESS, 5, 2), s(COMMON, 2, 3), s(VALUE, 3, 9));
        for (int k = 0; k < 9; k++) {
            write(x, 1, s(LABEL, k), s(JUMP, 8 - k, 0));
        }
        write(x, 1, s(GLOBAL, 9), s(SPACE, 2));
        write(x, 2, s(LABEL, 1), s(GLOBAL, 1), s(NUMBER, 5), s(SECTION, BSS), s(SPACE, 2), s(VALUE, 4, 1));
        write(x, 3, s(SECTION, DATA), s(NUMBER, 8), s(COMMON, 5, 1));
        stores(x, 4, 2);
        items(x, 0, 6, 3);
    }

    private void whileModulesAreWritten() {
        for (int kind = 0; kind < 9; kind++) {
            refusesAdd(1, kind, 2, 2);
        }
        int[] holding = {LABEL, COMMON, VALUE};
        for (int kind : holding) {
            refusesAdd(0, kind, 0, 1);
            refusesAdd(0, kind, 2, 1);
            refusesAdd(0, kind, 3, 1);
            refusesAdd(2, kind, 4, 1);
        }
        refusesAdd(2, NUMBER, 1, 0);
        refusesAdd(2, ADDRESS, 15, 0);
        refusesAdd(2, JUMP, 15, 0);
        refusesAdd(3, JUMP, 15, 0);
        refusesStore(0, -1);
        refusesStore(3, 2);
        refusesStore(1, 0);
        refusesStore(1, 5);
        refusesStore(4, 5);
        refusesStore(2, 3);
        refusesRemove(0);
        refusesRemove(1);
        refusesItem(0);
        refusesItem(3);
        refusesItem(4);
        refusesItem(2);
        refusesWithoutImage();
        refusesWithoutMachine();
        changeNothing("written", this::writeModules);
    }

    private void whenTheLineIsFull() {
        for (int item = 0; item < 7; item++) {
            refusesItem(item);
        }
        refusesStore(0, -1);
        refusesStore(5, -1);
        refusesStore(5, 4);
        changeNothing("the line is full", x -> {
            export(x, 4, 7);
            stores(x, 4, 1);
            items(x, 0, 6, 2, 6, 3, 6, 6, 5);
        });
    }

    private void whenTheArchiveIsFull() {
        for (int module = 0; module < 6; module++) {
            refusesItem(module);
        }
        changeNothing("the archive is full", x -> {
            stores(x, 3, 1, 5, 0, 2, 4);
            items(x, 6);
            export(x, 2, 7);
            write(x, 2, s(ADDRESS, 8, 0));
            export(x, 5, 8);
        });
    }

    private void afterAFailedLink() {
        refusesWithoutImage();
        refusesWithoutMachine();
        changeNothing("UNDEFINED", x -> {
            writeModules(x);
            due("link", x.link(10), SpanLinker.UNDEFINED);
        });
        refusesWithoutImage();
        refusesWithoutMachine();
        changeNothing("DOUBLE", x -> {
            writeModules(x);
            export(x, 5, 0);
            items(x, 5);
            due("link", x.link(11), SpanLinker.DOUBLE);
        });
        refusesWithoutImage();
        refusesWithoutMachine();
        changeNothing("LONG", x -> {
            writeModules(x);
            space(x, 5, 200);
            items(x, 5);
            due("link", x.link(-1), SpanLinker.LONG);
        });
    }

    private void whenThereIsAnImage() {
        refusesWithoutMachine();
        changeNothing("an image", x -> {
            writeModules(x);
            due("link", x.link(0), 0);
        });
    }

    private void whenItIsStripped() {
        refusesWithoutMachine();
        refusesStrip();
        changeNothing("stripped", x -> {
            writeModules(x);
            due("link", x.link(0), 0);
            due("strip", x.strip(), true);
        });
    }

    /** Takes in, puts out, stores into bss, calls and comes back, for ever, with two words on the tape. */
    private void startLoop(SpanLinker x) {
        write(x, 0, s(NUMBER, 7), s(LABEL, 6), s(GLOBAL, 6), s(NUMBER, 11 * OP), s(NUMBER, 10 * OP), s(NUMBER, 3 * OP),
            s(ADDRESS, 7, 0), s(NUMBER, 6 * OP), s(ADDRESS, 8, 0), s(JUMP, 6, 0), s(LABEL, 8), s(NUMBER, 7 * OP),
            s(SECTION, BSS), s(LABEL, 7), s(SPACE, 1), s(COMMON, 9, 2));
        linkAndStart(x, 6, 0);
        for (int v = 60000; v < 60004; v++) {
            due("feed", x.feed(v), true);
        }
        due("run", x.run(9), 9);
    }

    private void whenTheMachineRuns() {
        changeNothing("running", this::startLoop);
    }

    private void whenTheTapeIsFull() {
        refusesFeed(0);
        refusesFeed(7);
        refusesFeed(65535);
        changeNothing("a full tape", x -> {
            startLoop(x);
            for (int v = 1; v <= 4; v++) {
                due("feed", x.feed(v), true);
            }
        });
    }

    private void whenTheMachineHasEnded() {
        int[] ends = {0, 14 * OP, 2 * OP};
        for (int end : ends) {
            changeNothing("ended by " + end, x -> {
                write(x, 0, s(NUMBER, OP), s(NUMBER, 300), s(NUMBER, 10 * OP), s(NUMBER, end), s(NUMBER, 300));
                linkAndStart(x, -1, 0);
                due("feed", x.feed(5), true);
                due("run", x.run(1000), end == 0 ? 3 : 2);
            });
        }
    }
}
