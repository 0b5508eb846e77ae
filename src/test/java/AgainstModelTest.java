import java.util.ArrayList;
import java.util.Arrays;
import java.util.List;
import java.util.Random;

/** Many runs of calls with fixed seeds, each answer compared with the one of PlainModel. */
public final class AgainstModelTest {
    private static final int RUNS = 15000;
    /** The document promises no more calls of one object. */
    private static final int CALLS = 512;
    /** The most calls that one round makes. */
    private static final int ROUND = 32;

    private final Random random;
    private final SpanLinker x = new SpanLinker();
    private final PlainModel y = new PlainModel();
    private final List<String> calls = new ArrayList<>();
    /** Fewer names make the modules of a run meet more often. */
    private final int names;
    private final int mostSpace;
    /** How many statements of a hundred are NUMBER or SPACE: the rest asks for names. */
    private final int plainness;
    private boolean agrees = true;
    private static int linked;
    private static int steps;
    private static int most;
    private static final int[] RESULTS = new int[5];
    private static final int[] STATES = new int[5];

    private AgainstModelTest(long seed) {
        random = new Random(seed);
        names = random.nextBoolean() ? 2 + random.nextInt(3) : 2 + random.nextInt(15);
        mostSpace = random.nextBoolean() ? 2 : 16;
        plainness = 20 + random.nextInt(80);
    }

    public static void main(String[] args) {
        Check c = new Check();
        for (int seed = 0; seed < RUNS; seed++) {
            AgainstModelTest test = new AgainstModelTest(seed);
            c.due("run with seed " + seed + " agrees", test.runs(), true);
        }
        // A comparison that never links or steps would prove nothing.
        for (int result = 0; result <= 4; result++) {
            c.due("link answered " + -result + " often", RESULTS[result] > 100, true);
        }
        for (int state = 0; state <= 3; state++) {
            c.due("state " + state + " was met often", STATES[state] > 100, true);
        }
        c.due("enough images", linked > RUNS, true);
        c.due("enough steps", steps > RUNS, true);
        c.due("the most calls of one object", most, CALLS);
        System.out.println("links " + Arrays.toString(RESULTS) + ", states " + Arrays.toString(STATES));
        c.end();
    }

    /** Modules are written and put somewhere, then come all kinds of calls; the rest looks around. */
    private boolean runs() {
        int statements = random.nextInt(160);
        while (agrees && calls.size() < statements) {
            addStatement();
        }
        for (int k = random.nextInt(20); agrees && k > 0; k--) {
            arrange();
        }
        int rounds = 250 + random.nextInt(CALLS - ROUND - 250);
        while (agrees && calls.size() < rounds) {
            call();
        }
        for (int k = 0; agrees && calls.size() < CALLS; k++) {
            lookOver(k);
        }
        return agrees;
    }

    private void same(String call, int got, int want) {
        calls.add(call + " = " + want);
        most = Math.max(most, calls.size());
        if (got != want) {
            agrees = false;
            System.out.println(String.join("\n", calls));
            System.out.println(call + " answered " + got + ", the model says " + want);
        }
    }

    private void same(String call, boolean got, boolean want) {
        same(call, got ? 1 : 0, want ? 1 : 0);
    }

    private int wild(int least, int most) {
        switch (random.nextInt(40)) {
            case 0: return least - 1;
            case 1: return most + 1;
            case 2: return random.nextInt();
            default: return least + random.nextInt(most - least + 1);
        }
    }

    private int name() {
        return random.nextInt(50) == 0 ? wild(0, 15) : random.nextInt(names);
    }

    private void call() {
        int kind = random.nextInt(100);
        if (kind < 30) {
            addStatement();
        } else if (kind < 50) {
            arrange();
        } else if (kind < 65) {
            linkAndLook();
        } else if (kind < 90) {
            useMachine();
        } else {
            look();
        }
    }

    private void addStatement() {
        int m = wild(0, 5);
        int kind = random.nextInt(100) < plainness ? 3 + 2 * random.nextInt(2) : wild(0, 8);
        int a;
        int b = random.nextInt();
        switch (kind) {
            case 2: a = random.nextInt(3) == 0 ? wild(0, 2) : 0; break;
            case 3: a = number(); break;
            case 4: a = name(); b = random.nextInt(4) == 0 ? wild(-32768, 32767) : random.nextInt(4); break;
            case 5: a = wild(1, mostSpace); break;
            case 6: a = name(); b = wild(0, 3); break;
            case 7: a = name(); b = wild(1, 16); break;
            case 8: a = name(); b = random.nextBoolean() ? wild(0, 65535) : random.nextInt(100); break;
            default: a = name(); break;
        }
        same("add(" + m + ", " + kind + ", " + a + ", " + b + ")", x.add(m, kind, a, b), y.add(m, kind, a, b));
        if (random.nextInt(10) == 0) {
            same("length(" + m + ", 0)", x.length(m, 0), y.length(m, 0));
        }
        if (kind == 0 && random.nextBoolean()) {
            same("add(" + m + ", 1, " + a + ", 0)", x.add(m, 1, a, 0), y.add(m, 1, a, 0));
        }
    }

    /** Words that are likely to be code, or addresses of a small image. */
    private int number() {
        switch (random.nextInt(4)) {
            case 0: return wild(0, 65535);
            case 1: return random.nextInt(60);
            case 2: return 4096 * random.nextInt(16) + 256 * random.nextInt(4) + (random.nextInt(12) - 6 & 255);
            default: return 4096 * (1 + random.nextInt(13));
        }
    }

    private void arrange() {
        int m = wild(0, 5);
        int before = random.nextBoolean() ? -1 : wild(-1, 5);
        int item = wild(0, 6);
        switch (random.nextInt(12)) {
            case 0: same("clear(" + m + ")", x.clear(m), y.clear(m)); break;
            case 1: case 2: case 3:
                same("store(" + m + ", " + before + ")", x.store(m, before), y.store(m, before)); break;
            case 4: same("remove(" + m + ")", x.remove(m), y.remove(m)); break;
            case 5:
                x.newLine();
                y.newLine();
                calls.add("newLine()");
                break;
            default: same("item(" + item + ")", x.item(item), y.item(item)); break;
        }
    }

    private void linkAndLook() {
        int want = random.nextInt(3) != 0 ? -1 : name();
        want = random.nextInt(20) == 0 ? wild(-1, 15) : want;
        int result = y.link(want);
        same("link(" + want + ")", x.link(want), result);
        same("missing()", x.missing(), y.missing());
        RESULTS[-result]++;
        linked += result == 0 ? 1 : 0;
        for (int k = 0; k < 3; k++) {
            int at = random.nextInt(8) - 1;
            same("included(" + at + ")", x.included(at), y.included(at));
            same("size(" + k + ")", x.size(k), y.size(k));
        }
        for (int k = 0; k < 6; k++) {
            int address = nearAddress();
            same("word(" + address + ")", x.word(address), y.word(address));
            int name = name();
            same("symbol(" + name + ")", x.symbol(name), y.symbol(name));
        }
        if (random.nextInt(4) != 0) {
            same("start()", x.start(), y.start());
        }
    }

    /** An address of the image, or one of those just behind it. */
    private int nearAddress() {
        int words = Math.max(0, y.size(0) + y.size(1) + y.size(2));
        return random.nextInt(words + 2);
    }

    private void lookOver(int k) {
        switch (random.nextInt(4)) {
            case 0:
                same("word(" + k / 2 + ")", x.word(k / 2), y.word(k / 2));
                break;
            case 1:
                same("memory(" + k / 2 + ")", x.memory(k / 2), y.memory(k / 2));
                break;
            case 2:
                int m = random.nextInt(6);
                int at = random.nextInt(20);
                same("isLong(" + m + ", " + at + ")", x.isLong(m, at), y.isLong(m, at));
                break;
            default:
                int address = nearAddress();
                same("memory(" + address + ")", x.memory(address), y.memory(address));
                break;
        }
    }

    private void useMachine() {
        if (y.register(3) < 0 && random.nextInt(4) != 0) {
            linkAndLook();
            return;
        }
        int v = wild(0, 65535);
        int n = random.nextInt(3) == 0 ? wild(0, 1000) : random.nextInt(8);
        switch (random.nextInt(8)) {
            case 0: same("start()", x.start(), y.start()); break;
            case 1: case 2: same("feed(" + v + ")", x.feed(v), y.feed(v)); break;
            case 3: stripNowAndThen(); break;
            default:
                int done = y.run(n);
                same("run(" + n + ")", x.run(n), done);
                steps += Math.max(done, 0);
                STATES[done < 0 ? 4 : y.register(3)]++;
                registersAndMemory();
                break;
        }
    }

    /** Seldom, since a stripped image tells less. */
    private void stripNowAndThen() {
        if (random.nextInt(9) == 0) {
            same("strip()", x.strip(), y.strip());
        }
    }

    private void registersAndMemory() {
        for (int k = 0; k < 6; k++) {
            same("register(" + k + ")", x.register(k), y.register(k));
        }
        int k = wild(6, 8);
        same("register(" + k + ")", x.register(k), y.register(k));
        for (int look = 0; look < 4; look++) {
            int address = nearAddress();
            same("memory(" + address + ")", x.memory(address), y.memory(address));
        }
    }

    private void look() {
        int m = wild(0, 5);
        int k = wild(0, 19);
        int section = wild(0, 2);
        same("length(" + m + ", " + section + ")", x.length(m, section), y.length(m, section));
        same("isLong(" + m + ", " + k + ")", x.isLong(m, k), y.isLong(m, k));
        same("member(" + (k - 8) + ")", x.member(k - 8), y.member(k - 8));
        int at = random.nextInt();
        same("word(" + at + ")", x.word(at), y.word(at));
        same("memory(" + at + ")", x.memory(at), y.memory(at));
        same("symbol(" + at + ")", x.symbol(at), y.symbol(at));
        same("register(" + at + ")", x.register(at), y.register(at));
        same("included(" + at + ")", x.included(at), y.included(at));
    }
}
