import java.util.ArrayList;
import java.util.List;
import java.util.function.BiConsumer;
import java.util.function.Consumer;
import java.util.function.ToIntFunction;

/**
 * Two objects are brought into the same state, one of them gets one call more, and then both must
 * answer alike to a look at them. A look may change the objects: each pair is looked at once.
 */
class Twins extends Check {
    static final int OP = 4096;

    /** Asks an object and notes its answers. */
    interface Look extends BiConsumer<SpanLinker, List<String>> { }

    /** False is -1 then, as it is where a refusal is a number. */
    static int asInt(boolean answer) {
        return answer ? 1 : -1;
    }

    /** Makes the call on one of the twins; then no look tells them apart. The call's answer. */
    int alike(String name, Consumer<SpanLinker> toTheState, ToIntFunction<SpanLinker> call, Look look) {
        SpanLinker x = new SpanLinker();
        SpanLinker y = new SpanLinker();
        toTheState.accept(x);
        toTheState.accept(y);
        int answer = call.applyAsInt(x);
        List<String> got = new ArrayList<>();
        List<String> want = new ArrayList<>();
        look.accept(x, got);
        look.accept(y, want);
        for (int k = 0; k < want.size(); k++) {
            if (!got.get(k).equals(want.get(k))) {
                tell(name + " changed " + want.get(k) + " to " + got.get(k));
                return answer;
            }
        }
        return answer;
    }

    static void note(List<String> answers, String call, int answer) {
        answers.add(call + " = " + answer);
    }

    static void words(SpanLinker x, List<String> answers, int module) {
        for (int section = 0; section < 3; section++) {
            note(answers, "length(" + module + ", " + section + ")", x.length(module, section));
        }
        for (int k = 0; k < 21; k++) {
            note(answers, "isLong(" + module + ", " + k + ")", asInt(x.isLong(module, k)));
        }
    }

    static void allWords(SpanLinker x, List<String> answers) {
        for (int module = 0; module < 6; module++) {
            words(x, answers, module);
        }
    }

    static void archive(SpanLinker x, List<String> answers) {
        for (int k = 0; k < 7; k++) {
            note(answers, "member(" + k + ")", x.member(k));
        }
    }

    static void latestLink(SpanLinker x, List<String> answers) {
        for (int k = 0; k < 7; k++) {
            note(answers, "included(" + k + ")", x.included(k));
        }
        note(answers, "missing()", x.missing());
    }

    static void image(SpanLinker x, List<String> answers) {
        for (int k = 0; k < 3; k++) {
            note(answers, "size(" + k + ")", x.size(k));
        }
        for (int address = 0; address < 40; address++) {
            note(answers, "word(" + address + ")", x.word(address));
        }
    }

    static void names(SpanLinker x, List<String> answers) {
        for (int name = 0; name < 16; name++) {
            note(answers, "symbol(" + name + ")", x.symbol(name));
        }
    }

    static void machine(SpanLinker x, List<String> answers) {
        for (int k = 0; k < 9; k++) {
            note(answers, "register(" + k + ")", x.register(k));
        }
        for (int address = 0; address < 40; address++) {
            note(answers, "memory(" + address + ")", x.memory(address));
        }
    }

    static void everything(SpanLinker x, List<String> answers) {
        allWords(x, answers);
        archive(x, answers);
        latestLink(x, answers);
        image(x, answers);
        names(x, answers);
        machine(x, answers);
    }

    /** Tells each module's section, the names it holds and how many statements it has. */
    static void writeOn(SpanLinker x, List<String> answers) {
        for (int module = 0; module < 6; module++) {
            for (int round = 0; round < 2; round++) {
                note(answers, "add(" + module + ", JUMP)", asInt(x.add(module, JUMP, 3, 0)));
                note(answers, "add(" + module + ", NUMBER)", asInt(x.add(module, NUMBER, 3, 0)));
                for (int name = 0; name < 16; name++) {
                    note(answers, "add(" + module + ", LABEL, " + name + ")", asInt(x.add(module, LABEL, name, 0)));
                }
                note(answers, "length(" + module + ", 0)", x.length(module, TEXT));
                note(answers, "clear(" + module + ")", x.clear(module));
            }
        }
    }

    /** Tells what stands on the line, what names the modules export and refer to, and their words. */
    static void linkOn(SpanLinker x, List<String> answers) {
        for (int want = 15; want >= -1; want--) {
            note(answers, "link(" + want + ")", x.link(want));
            note(answers, "missing()", x.missing());
            for (int k = 0; k < 6; k++) {
                note(answers, "included(" + k + ")", x.included(k));
            }
            note(answers, "symbol(" + want + ")", x.symbol(want));
        }
        image(x, answers);
        for (int item = 0; item < 7; item++) {
            note(answers, "item(" + item + ")", asInt(x.item(item)));
        }
        for (int k = 0; k < 9; k++) {
            note(answers, "item(6)", asInt(x.item(6)));
        }
        for (int module = 0; module < 6; module++) {
            note(answers, "store(" + module + ", -1)", asInt(x.store(module, -1)));
            note(answers, "remove(" + module + ")", asInt(x.remove(module)));
        }
    }

    /** Tells the machine's tape, and what it does. */
    static void runOn(SpanLinker x, List<String> answers) {
        for (int k = 0; k < 3; k++) {
            note(answers, "feed(" + k + ")", asInt(x.feed(k)));
        }
        for (int round = 0; round < 8; round++) {
            note(answers, "run(" + round + ")", x.run(round));
            for (int k = 0; k < 9; k++) {
                note(answers, "register(" + k + ")", x.register(k));
            }
        }
        for (int k = 0; k < 9; k++) {
            note(answers, "feed(" + k + ")", asInt(x.feed(k)));
        }
    }

    /** Tells whether the image can be stripped and started, and what its machine does. */
    static void startOn(SpanLinker x, List<String> answers) {
        note(answers, "start()", asInt(x.start()));
        machine(x, answers);
        runOn(x, answers);
        note(answers, "strip()", asInt(x.strip()));
        note(answers, "run(1000)", x.run(1000));
        machine(x, answers);
    }

    /** Module 1 is full, 2 is in bss, 3 in data; 4 and 2 are in the archive, 0, 3 and 1 on the line. */
    void writeModules(SpanLinker x) {
        write(x, 0, s(LABEL, 0), s(GLOBAL, 0), s(JUMP, 1, 1), s(ADDRESS, 5, 2), s(COMMON, 2, 3), s(VALUE, 3, 9),
            s(ADDRESS, 3, 0));
        for (int k = 0; k < 8; k++) {
            write(x, 1, s(LABEL, k), s(JUMP, 7 - k, 0));
        }
        write(x, 1, s(GLOBAL, 6), s(ADDRESS, 10, 0), s(GLOBAL, 10), s(NUMBER, 77));
        write(x, 2, s(LABEL, 1), s(GLOBAL, 1), s(NUMBER, 10 * OP), s(SECTION, BSS), s(SPACE, 2), s(VALUE, 4, 1));
        write(x, 3, s(SECTION, DATA), s(NUMBER, 8), s(COMMON, 5, 1), s(VALUE, 10, 44), s(GLOBAL, 10));
        stores(x, 4, 2);
        items(x, 0, 6, 3, 1);
    }

    /** Takes in, puts out, stores into bss, calls and comes back, for ever, with words on the tape. */
    void startLoop(SpanLinker x) {
        write(x, 0, s(NUMBER, 7), s(LABEL, 6), s(GLOBAL, 6), s(NUMBER, 11 * OP), s(NUMBER, 10 * OP), s(NUMBER, 3 * OP),
            s(ADDRESS, 7, 0), s(NUMBER, 6 * OP), s(ADDRESS, 8, 0), s(JUMP, 6, 0), s(LABEL, 8), s(NUMBER, 7 * OP),
            s(SECTION, BSS), s(LABEL, 7), s(SPACE, 1), s(COMMON, 9, 2));
        linkAndStart(x, 6, 0);
        for (int v = 60000; v < 60004; v++) {
            due("feed", x.feed(v), true);
        }
        due("run", x.run(9), 9);
    }
}
