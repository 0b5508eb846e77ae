import java.util.function.ToIntFunction;

/**
 * What a call does not change: each part of an object stays as it is, but for the change that the
 * call's own promise tells ("Nothing is promised beyond the answers and state changes described above").
 */
public final class UntouchedPartsTest extends Twins {
    public static void main(String[] args) {
        UntouchedPartsTest t = new UntouchedPartsTest();
        t.add();
        t.clear();
        t.storeAndRemove();
        t.itemAndNewLine();
        t.link();
        t.strip();
        t.start();
        t.feed();
        t.run();
        t.questions();
        t.end();
    }

    /** Modules, archive, line, image, and a machine that has done some steps. */
    private void allParts(SpanLinker x) {
        writeModules(x);
        due("link", x.link(0), 0);
        due("start", x.start(), true);
        due("feed", x.feed(7), true);
        due("feed", x.feed(8), true);
        due("run", x.run(2), 2);
    }

    private void stay(String name, int answer, ToIntFunction<SpanLinker> call, Look... looks) {
        sentence(name + " changes nothing else");
        for (Look look : looks) {
            due(name, alike(name, this::allParts, call, look), answer);
        }
    }

    private static Look[] othersThan(int module, Look... looks) {
        Look[] all = new Look[looks.length + 1];
        System.arraycopy(looks, 0, all, 0, looks.length);
        all[looks.length] = (x, answers) -> {
            for (int other = 0; other < 6; other++) {
                if (other != module) {
                    words(x, answers, other);
                    note(answers, "clear(" + other + ")", x.clear(other));
                }
            }
        };
        return all;
    }

    private void add() {
        int[] modules = {0, 2, 5};
        for (int module : modules) {
            for (int kind = 0; kind < 9; kind++) {
                int k = kind;
                int taken = module == 2 && (kind == NUMBER || kind == ADDRESS || kind == JUMP) ? -1 : 1;
                int a = kind == SECTION ? 1 : 13;
                stay("add(" + module + ", " + kind + ")", taken, x -> asInt(x.add(module, k, a, 1)),
                    othersThan(module, Twins::archive, Twins::latestLink, Twins::image, Twins::names, Twins::machine,
                        Twins::runOn, Twins::startOn));
            }
        }
    }

    private void clear() {
        int[] counts = {7, 20, 6, 5, 0, 0};
        for (int module = 0; module < 6; module++) {
            int m = module;
            stay("clear(" + module + ")", counts[module], x -> x.clear(m),
                othersThan(module, Twins::archive, Twins::latestLink, Twins::image, Twins::names, Twins::machine,
                    Twins::runOn, Twins::startOn));
        }
    }

    private void storeAndRemove() {
        Look[] looks = {Twins::allWords, Twins::writeOn, Twins::latestLink, Twins::image, Twins::names, Twins::machine,
            Twins::runOn, Twins::startOn};
        stay("store(5, -1)", 1, x -> asInt(x.store(5, -1)), looks);
        stay("store(5, 4)", 1, x -> asInt(x.store(5, 4)), looks);
        stay("store(4, -1)", 1, x -> asInt(x.store(4, -1)), looks);
        stay("store(2, 4)", 1, x -> asInt(x.store(2, 4)), looks);
        stay("remove(2)", 1, x -> asInt(x.remove(2)), looks);
        stay("remove(4)", 1, x -> asInt(x.remove(4)), looks);
        // Where nothing is moved, the next link is the same too.
        stay("store(2, -1)", 1, x -> asInt(x.store(2, -1)), Twins::everything, Twins::linkOn);
        stay("store(4, 2)", 1, x -> asInt(x.store(4, 2)), Twins::everything, Twins::linkOn);
    }

    private void itemAndNewLine() {
        Look[] looks = {Twins::everything, Twins::writeOn, Twins::runOn, Twins::startOn};
        stay("item(5)", 1, x -> asInt(x.item(5)), looks);
        stay("item(6)", 1, x -> asInt(x.item(6)), looks);
        stay("newLine()", 1, x -> {
            x.newLine();
            return 1;
        }, looks);
    }

    private void link() {
        Look[] looks = {Twins::allWords, Twins::writeOn, Twins::archive, Twins::linkOn};
        stay("link(0)", 0, x -> x.link(0), looks);
        stay("link(-1)", 0, x -> x.link(-1), looks);
        stay("link(12)", SpanLinker.UNDEFINED, x -> x.link(12), looks);
        // Once more the same link: only the machine is thrown away.
        stay("link(0) again", 0, x -> x.link(0), Twins::latestLink, Twins::image, Twins::names, Twins::startOn);
    }

    private void strip() {
        stay("strip()", 1, x -> asInt(x.strip()), Twins::allWords, Twins::writeOn, Twins::archive, Twins::latestLink,
            Twins::linkOn, Twins::image, Twins::machine, Twins::runOn);
        stay("strip()", 1, x -> asInt(x.strip()), (x, answers) -> {
            note(answers, "start()", asInt(x.start()));
            machine(x, answers);
            runOn(x, answers);
        });
    }

    private void start() {
        stay("start()", 1, x -> asInt(x.start()), Twins::allWords, Twins::writeOn, Twins::archive, Twins::latestLink,
            Twins::linkOn, Twins::image, Twins::names, Twins::startOn);
    }

    private void feed() {
        stay("feed(9)", 1, x -> asInt(x.feed(9)), Twins::everything, Twins::writeOn, Twins::linkOn, Twins::startOn);
    }

    private void run() {
        Look[] looks = {Twins::allWords, Twins::writeOn, Twins::archive, Twins::latestLink, Twins::linkOn, Twins::image,
            Twins::names, Twins::startOn};
        stay("run(0)", 0, x -> x.run(0), looks);
        stay("run(0)", 0, x -> x.run(0), Twins::machine, Twins::runOn);
        stay("run(1)", 1, x -> x.run(1), looks);
    }

    /** All that only tells: with right arguments and with wrong ones. */
    private void questions() {
        Look[] looks = {Twins::everything, Twins::writeOn, Twins::linkOn, Twins::runOn, Twins::startOn};
        for (Look look : looks) {
            alike("length", this::allParts, x -> x.length(0, 0) + x.length(6, 0) + x.length(0, 3), look);
            alike("isLong", this::allParts, x -> asInt(x.isLong(0, 2)) + asInt(x.isLong(6, 0)), look);
            alike("member", this::allParts, x -> x.member(0) + x.member(6), look);
            alike("included", this::allParts, x -> x.included(0) + x.included(6), look);
            alike("missing", this::allParts, x -> x.missing(), look);
            alike("size", this::allParts, x -> x.size(0) + x.size(3), look);
            alike("word", this::allParts, x -> x.word(0) + x.word(200), look);
            alike("symbol", this::allParts, x -> x.symbol(0) + x.symbol(16), look);
            alike("register", this::allParts, x -> x.register(0) + x.register(5) + x.register(9), look);
            alike("memory", this::allParts, x -> x.memory(0) + x.memory(200), look);
        }
    }
}
