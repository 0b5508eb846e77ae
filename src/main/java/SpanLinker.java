/**
 * An assembler for modules of statements, a linker with an archive, and the machine that runs what
 * was linked. Every row is made in a constructor and used again, so that no call makes an object.
 */
public final class SpanLinker {
    public static final int DOUBLE = -2;
    public static final int UNDEFINED = -3;
    public static final int LONG = -4;

    private static final int REFUSED = -1;
    private static final int NONE = -1;

    private static final int MODULES = 6;
    private static final int ARCHIVE = 6;
    private static final int ITEMS = 8;
    private static final int STATEMENTS = 20;
    private static final int NAMES = 16;
    private static final int LAST_WORD = 65535;
    private static final int IMAGE_WORDS = 200;
    private static final int TAPE_WORDS = 8;
    private static final int LATEST_WORDS = 4;
    private static final int MOST_STEPS = 1000;

    private static final int SECTIONS = 3;
    private static final int TEXT = 0;
    private static final int DATA = 1;
    private static final int BSS = 2;

    private static final int KIND_LABEL = 0;
    private static final int KIND_GLOBAL = 1;
    private static final int KIND_SECTION = 2;
    private static final int KIND_NUMBER = 3;
    private static final int KIND_ADDRESS = 4;
    private static final int KIND_SPACE = 5;
    private static final int KIND_JUMP = 6;
    private static final int KIND_COMMON = 7;
    private static final int KIND_VALUE = 8;

    private static final int HALT = 0;
    private static final int LOAD_NUMBER = 1;
    private static final int LOAD_MEMORY = 2;
    private static final int STORE_MEMORY = 3;
    private static final int ADD_MEMORY = 4;
    private static final int SUBTRACT_MEMORY = 5;
    private static final int CALL = 6;
    private static final int RETURN = 7;
    private static final int LONG_JUMP = 8;
    private static final int SHORT_JUMP = 9;
    private static final int PUT_OUT = 10;
    private static final int TAKE_IN = 11;
    private static final int LOAD_AT_A = 12;
    private static final int SHIFT_RIGHT = 13;

    private static final int RUNNING = 0;
    private static final int HALTED = 1;
    private static final int ILLEGAL = 2;
    private static final int OUTSIDE = 3;

    private final SourceModule[] modules;
    private final Row archive;
    private final Row line;
    private final Inclusion inclusion;
    private final Image image;
    private final Machine machine;

    public SpanLinker() {
        SourceModule[] sources = emptyModules();
        Inclusion latest = new Inclusion(sources);
        modules = sources;
        archive = new Row(MODULES);
        line = new Row(ITEMS);
        inclusion = latest;
        image = new Image(sources, latest);
        machine = new Machine();
    }

    public boolean add(int module, int kind, int a, int b) {
        if (!isModule(module) || !modules[module].accepts(kind, a, b)) {
            return false;
        }
        modules[module].append(kind, a, b);
        return true;
    }

    public int clear(int module) {
        return isModule(module) ? modules[module].takeAllAway() : REFUSED;
    }

    public int length(int module, int section) {
        if (!isModule(module) || !isSection(section)) {
            return NONE;
        }
        return modules[module].wordsIn(section);
    }

    public boolean isLong(int module, int k) {
        return isModule(module) && modules[module].isLongJump(k);
    }

    public boolean store(int module, int before) {
        if (!isModule(module) || line.holds(module) || !mayStandBefore(module, before)) {
            return false;
        }
        archive.takeOut(module);
        if (before == NONE) {
            archive.append(module);
        } else {
            archive.insert(archive.placeOf(before), module);
        }
        return true;
    }

    public boolean remove(int module) {
        return archive.takeOut(module);
    }

    public int member(int k) {
        return archive.at(k);
    }

    public boolean item(int item) {
        if (item != ARCHIVE && !isFreeModule(item)) {
            return false;
        }
        return line.append(item);
    }

    public void newLine() {
        line.makeEmpty();
    }

    public int link(int want) {
        if (want != NONE && !isName(want)) {
            return REFUSED;
        }
        image.throwAway();
        machine.throwAway();
        inclusion.goOver(line, archive, want);
        if (inclusion.hasDouble()) {
            return DOUBLE;
        }
        if (inclusion.wantedNames() != 0) {
            return UNDEFINED;
        }
        return image.build(want) ? 0 : LONG;
    }

    public int included(int k) {
        return inclusion.moduleAt(k);
    }

    public int missing() {
        return inclusion.wantedNames();
    }

    public int size(int section) {
        return image.wordsIn(section);
    }

    public int word(int address) {
        return image.wordAt(address);
    }

    public int symbol(int name) {
        return image.valueOf(name);
    }

    public boolean strip() {
        return image.dropNames();
    }

    public boolean start() {
        if (!image.isThere()) {
            return false;
        }
        machine.begin(image);
        return true;
    }

    public boolean feed(int v) {
        return machine.putOnTape(v);
    }

    public int run(int n) {
        if (!machine.isThere() || !isWithin(n, 0, MOST_STEPS)) {
            return REFUSED;
        }
        return machine.doSteps(n);
    }

    public int register(int k) {
        return machine.isThere() ? machine.registerAt(k) : NONE;
    }

    public int memory(int address) {
        return machine.wordAt(address);
    }

    private static SourceModule[] emptyModules() {
        SourceModule[] sources = new SourceModule[MODULES];
        for (int module = 0; module < MODULES; module++) {
            sources[module] = new SourceModule();
        }
        return sources;
    }

    private boolean mayStandBefore(int module, int before) {
        return before == NONE || before != module && archive.holds(before);
    }

    private boolean isFreeModule(int item) {
        return isModule(item) && !line.holds(item) && !archive.holds(item);
    }

    private static boolean isWithin(int number, int least, int most) {
        return number >= least && number <= most;
    }

    private static boolean isModule(int number) {
        return isWithin(number, 0, MODULES - 1);
    }

    private static boolean isSection(int number) {
        return isWithin(number, 0, SECTIONS - 1);
    }

    private static boolean isName(int number) {
        return isWithin(number, 0, NAMES - 1);
    }

    private static boolean isWord(int number) {
        return isWithin(number, 0, LAST_WORD);
    }

    private static int toWord(int number) {
        return number & LAST_WORD;
    }

    /** A set of names is an int with one bit for each, as missing() answers it. */
    private static int setOf(int name) {
        return 1 << name;
    }

    private static boolean hasName(int names, int name) {
        return (names >> name & 1) != 0;
    }

    /** Numbers in an order, as many as there is room for. */
    private static final class Row {
        private final int[] numbers;
        private int count;

        Row(int room) {
            numbers = new int[room];
        }

        int howMany() {
            return count;
        }

        int at(int k) {
            return k >= 0 && k < count ? numbers[k] : NONE;
        }

        int placeOf(int number) {
            for (int k = 0; k < count; k++) {
                if (numbers[k] == number) {
                    return k;
                }
            }
            return NONE;
        }

        boolean holds(int number) {
            return placeOf(number) != NONE;
        }

        boolean append(int number) {
            return insert(count, number);
        }

        boolean insert(int place, int number) {
            if (count >= numbers.length || place < 0 || place > count) {
                return false;
            }
            for (int k = count; k > place; k--) {
                numbers[k] = numbers[k - 1];
            }
            numbers[place] = number;
            count++;
            return true;
        }

        boolean takeOut(int number) {
            int place = placeOf(number);
            if (place == NONE) {
                return false;
            }
            count--;
            for (int k = place; k < count; k++) {
                numbers[k] = numbers[k + 1];
            }
            return true;
        }

        void makeEmpty() {
            count = 0;
        }
    }

    /** The statements of one module, with the places of their words. */
    private static final class SourceModule {
        private final int[] kinds = new int[STATEMENTS];
        private final int[] firsts = new int[STATEMENTS];
        private final int[] seconds = new int[STATEMENTS];
        private final int[] sections = new int[STATEMENTS];
        private final int[] places = new int[STATEMENTS];
        private final boolean[] longs = new boolean[STATEMENTS];
        private final int[] lengths = new int[SECTIONS];
        /** For a name that is defined or a COMMON here: the statement that says so. */
        private final int[] holders = new int[NAMES];
        private int count;
        private int definedNames;
        private int commonNames;
        private int globalNames;
        private int usedNames;

        boolean accepts(int kind, int a, int b) {
            return count < STATEMENTS
                && hasFittingNumbers(kind, a, b)
                && mayStandInSection(kind)
                && !isSaidTwice(kind, a);
        }

        void append(int kind, int a, int b) {
            int section = kind == KIND_SECTION ? a : currentSection();
            kinds[count] = kind;
            firsts[count] = a;
            seconds[count] = b;
            sections[count] = section;
            noteName(kind, a);
            count++;
            settleJumps();
        }

        int takeAllAway() {
            int before = count;
            count = 0;
            definedNames = 0;
            commonNames = 0;
            globalNames = 0;
            usedNames = 0;
            settleJumps();
            return before;
        }

        int howMany() {
            return count;
        }

        int kindOf(int k) {
            return kinds[k];
        }

        int firstOf(int k) {
            return firsts[k];
        }

        int secondOf(int k) {
            return seconds[k];
        }

        int sectionOf(int k) {
            return sections[k];
        }

        int placeOf(int k) {
            return places[k];
        }

        int holderOf(int name) {
            return holders[name];
        }

        int wordsIn(int section) {
            return lengths[section];
        }

        boolean isLongJump(int k) {
            return k >= 0 && k < count && longs[k];
        }

        int distanceOf(int jump) {
            return places[holders[firsts[jump]]] - places[jump] - 1;
        }

        boolean defines(int name) {
            return hasName(definedNames, name);
        }

        int exportedNames() {
            return definedNames & globalNames;
        }

        int referredNames() {
            return (globalNames | usedNames) & ~definedNames & ~commonNames;
        }

        int commons() {
            return commonNames;
        }

        int wordsOfCommon(int name) {
            return hasName(commonNames, name) ? seconds[holders[name]] : 0;
        }

        private static boolean hasFittingNumbers(int kind, int a, int b) {
            switch (kind) {
                case KIND_LABEL:
                case KIND_GLOBAL:
                    return isName(a);
                case KIND_SECTION:
                    return isSection(a);
                case KIND_NUMBER:
                    return isWord(a);
                case KIND_ADDRESS:
                    return isName(a) && isWithin(b, -32768, 32767);
                case KIND_SPACE:
                    return isWithin(a, 1, 16);
                case KIND_JUMP:
                    return isName(a) && isWithin(b, 0, 3);
                case KIND_COMMON:
                    return isName(a) && isWithin(b, 1, 16);
                case KIND_VALUE:
                    return isName(a) && isWord(b);
                default:
                    return false;
            }
        }

        private boolean mayStandInSection(int kind) {
            if (kind == KIND_JUMP) {
                return currentSection() == TEXT;
            }
            if (kind == KIND_NUMBER || kind == KIND_ADDRESS) {
                return currentSection() != BSS;
            }
            return true;
        }

        private boolean isSaidTwice(int kind, int a) {
            return holdsName(kind) && hasName(definedNames | commonNames, a);
        }

        private static boolean holdsName(int kind) {
            return kind == KIND_LABEL || kind == KIND_VALUE || kind == KIND_COMMON;
        }

        private int currentSection() {
            return count == 0 ? TEXT : sections[count - 1];
        }

        private void noteName(int kind, int a) {
            if (holdsName(kind)) {
                holders[a] = count;
            }
            if (kind == KIND_LABEL || kind == KIND_VALUE) {
                definedNames |= setOf(a);
            } else if (kind == KIND_COMMON) {
                commonNames |= setOf(a);
            } else if (kind == KIND_GLOBAL) {
                globalNames |= setOf(a);
            } else if (kind == KIND_ADDRESS || kind == KIND_JUMP) {
                usedNames |= setOf(a);
            }
        }

        /** Begins anew each time: a label that comes later can make a long jump short again. */
        private void settleJumps() {
            for (int k = 0; k < count; k++) {
                longs[k] = kinds[k] == KIND_JUMP && !aimsAtOwnText(k);
            }
            placeWords();
            // Each further pass makes at least one more statement long.
            for (int pass = 0; pass < STATEMENTS; pass++) {
                if (!lengthenFarJumps()) {
                    return;
                }
                placeWords();
            }
        }

        private boolean aimsAtOwnText(int jump) {
            int name = firsts[jump];
            if (!hasName(definedNames, name)) {
                return false;
            }
            int holder = holders[name];
            return kinds[holder] == KIND_LABEL && sections[holder] == TEXT;
        }

        private void placeWords() {
            for (int section = 0; section < SECTIONS; section++) {
                lengths[section] = 0;
            }
            for (int k = 0; k < count; k++) {
                int section = sections[k];
                places[k] = lengths[section];
                lengths[section] += wordsOf(k);
            }
        }

        private int wordsOf(int k) {
            switch (kinds[k]) {
                case KIND_NUMBER:
                case KIND_ADDRESS:
                    return 1;
                case KIND_SPACE:
                    return firsts[k];
                case KIND_JUMP:
                    return longs[k] ? 2 : 1;
                default:
                    return 0;
            }
        }

        private boolean lengthenFarJumps() {
            boolean lengthened = false;
            for (int k = 0; k < count; k++) {
                if (kinds[k] == KIND_JUMP && !longs[k] && !isWithin(distanceOf(k), -8, 7)) {
                    longs[k] = true;
                    lengthened = true;
                }
            }
            return lengthened;
        }
    }

    /** What the latest link included, and the names that came with it. */
    private static final class Inclusion {
        private final SourceModule[] modules;
        private final Row order = new Row(MODULES);
        private int soughtNames;
        private int exportedNames;
        private int commonNames;
        private int doubleNames;

        Inclusion(SourceModule[] modules) {
            this.modules = modules;
        }

        void goOver(Row line, Row archive, int want) {
            order.makeEmpty();
            soughtNames = want == NONE ? 0 : setOf(want);
            exportedNames = 0;
            commonNames = 0;
            doubleNames = 0;
            for (int k = 0; k < line.howMany(); k++) {
                if (line.at(k) == ARCHIVE) {
                    search(archive);
                } else {
                    include(line.at(k));
                }
            }
        }

        int howMany() {
            return order.howMany();
        }

        int moduleAt(int k) {
            return order.at(k);
        }

        boolean hasDouble() {
            return doubleNames != 0;
        }

        int wantedNames() {
            return soughtNames & ~exportedNames & ~commonNames;
        }

        boolean isLoneCommon(int name) {
            return hasName(commonNames & ~exportedNames, name);
        }

        private void search(Row archive) {
            // Every pass but the last includes a member that was not included before.
            for (int pass = 0; pass <= MODULES; pass++) {
                if (!includeWantedMembers(archive)) {
                    return;
                }
            }
        }

        private boolean includeWantedMembers(Row archive) {
            boolean found = false;
            for (int k = 0; k < archive.howMany(); k++) {
                int module = archive.at(k);
                if (!order.holds(module) && exportsWantedName(module)) {
                    include(module);
                    found = true;
                }
            }
            return found;
        }

        private boolean exportsWantedName(int module) {
            return (modules[module].exportedNames() & wantedNames()) != 0;
        }

        private void include(int module) {
            SourceModule source = modules[module];
            order.append(module);
            doubleNames |= exportedNames & source.exportedNames();
            exportedNames |= source.exportedNames();
            commonNames |= source.commons();
            soughtNames |= source.referredNames();
        }
    }

    /** The words that a link laid out, and what the known names stand for. */
    private static final class Image {
        private final SourceModule[] modules;
        private final Inclusion inclusion;
        /** The first address of each section of each included module. */
        private final int[][] bases = new int[MODULES][SECTIONS];
        private final int[] words = new int[IMAGE_WORDS];
        private final int[] sizes = new int[SECTIONS];
        /** What each name stands for outside of the modules; NONE when it is not known. */
        private final int[] values = new int[NAMES];
        private int total;
        private int entry;
        private boolean there;
        private boolean stripped;

        Image(SourceModule[] modules, Inclusion inclusion) {
            this.modules = modules;
            this.inclusion = inclusion;
        }

        void throwAway() {
            there = false;
        }

        boolean isThere() {
            return there;
        }

        boolean build(int want) {
            layOutSections();
            layOutCommons();
            if (total > IMAGE_WORDS) {
                return false;
            }
            // All exports first: a module may use a name of one that was included after it.
            for (int k = 0; k < inclusion.howMany(); k++) {
                noteExports(inclusion.moduleAt(k));
            }
            makeWordsZero();
            for (int k = 0; k < inclusion.howMany(); k++) {
                writeModule(inclusion.moduleAt(k));
            }
            entry = want == NONE ? 0 : values[want];
            there = true;
            stripped = false;
            return true;
        }

        int howMany() {
            return total;
        }

        int textWords() {
            return sizes[TEXT];
        }

        int entryAddress() {
            return entry;
        }

        int wordsIn(int section) {
            return there && isSection(section) ? sizes[section] : NONE;
        }

        int wordAt(int address) {
            return there && isWithin(address, 0, total - 1) ? words[address] : NONE;
        }

        int valueOf(int name) {
            return there && !stripped && isName(name) ? values[name] : NONE;
        }

        boolean dropNames() {
            if (!there || stripped) {
                return false;
            }
            stripped = true;
            return true;
        }

        private void layOutSections() {
            total = 0;
            for (int section = 0; section < SECTIONS; section++) {
                int first = total;
                for (int k = 0; k < inclusion.howMany(); k++) {
                    int module = inclusion.moduleAt(k);
                    bases[module][section] = total;
                    total += modules[module].wordsIn(section);
                }
                sizes[section] = total - first;
            }
        }

        private void layOutCommons() {
            for (int name = 0; name < NAMES; name++) {
                values[name] = NONE;
                if (inclusion.isLoneCommon(name)) {
                    int length = largestCommon(name);
                    values[name] = total;
                    total += length;
                    sizes[BSS] += length;
                }
            }
        }

        private int largestCommon(int name) {
            int largest = 0;
            for (int k = 0; k < inclusion.howMany(); k++) {
                int length = modules[inclusion.moduleAt(k)].wordsOfCommon(name);
                largest = Math.max(largest, length);
            }
            return largest;
        }

        private void noteExports(int module) {
            int exported = modules[module].exportedNames();
            for (int name = 0; name < NAMES; name++) {
                if (hasName(exported, name)) {
                    values[name] = standsFor(module, name);
                }
            }
        }

        private int standsFor(int module, int name) {
            SourceModule source = modules[module];
            if (!source.defines(name)) {
                return values[name];
            }
            int holder = source.holderOf(name);
            if (source.kindOf(holder) == KIND_VALUE) {
                return source.secondOf(holder);
            }
            return addressOf(module, holder);
        }

        private int addressOf(int module, int k) {
            SourceModule source = modules[module];
            return bases[module][source.sectionOf(k)] + source.placeOf(k);
        }

        private void makeWordsZero() {
            for (int address = 0; address < IMAGE_WORDS; address++) {
                words[address] = 0;
            }
        }

        private void writeModule(int module) {
            SourceModule source = modules[module];
            for (int k = 0; k < source.howMany(); k++) {
                int address = addressOf(module, k);
                int kind = source.kindOf(k);
                if (kind == KIND_NUMBER) {
                    words[address] = source.firstOf(k);
                } else if (kind == KIND_ADDRESS) {
                    int value = standsFor(module, source.firstOf(k));
                    words[address] = toWord(value + source.secondOf(k));
                } else if (kind == KIND_JUMP) {
                    writeJump(module, k, address);
                }
            }
        }

        private void writeJump(int module, int k, int address) {
            SourceModule source = modules[module];
            int condition = 256 * source.secondOf(k);
            if (source.isLongJump(k)) {
                words[address] = LONG_JUMP * 4096 + condition;
                words[address + 1] = standsFor(module, source.firstOf(k));
            } else {
                words[address] = SHORT_JUMP * 4096 + condition + (source.distanceOf(k) & 255);
            }
        }
    }

    /** The machine: a copy of the image's words, so that the image stays as it was linked. */
    private static final class Machine {
        private final int[] words = new int[IMAGE_WORDS];
        private final int[] tape = new int[TAPE_WORDS];
        private final int[] latest = new int[LATEST_WORDS];
        private int total;
        private int textWords;
        private int registerA;
        private int registerR;
        private int pc;
        private int state;
        private int fed;
        private int taken;
        private int putOut;
        private boolean there;

        void throwAway() {
            there = false;
        }

        boolean isThere() {
            return there;
        }

        void begin(Image image) {
            total = image.howMany();
            textWords = image.textWords();
            for (int address = 0; address < total; address++) {
                words[address] = image.wordAt(address);
            }
            registerA = 0;
            registerR = 0;
            pc = image.entryAddress();
            state = RUNNING;
            fed = 0;
            taken = 0;
            putOut = 0;
            there = true;
        }

        boolean putOnTape(int v) {
            if (!there || !isWord(v) || fed >= TAPE_WORDS) {
                return false;
            }
            tape[fed] = v;
            fed++;
            return true;
        }

        int doSteps(int most) {
            for (int done = 0; done < most; done++) {
                if (state != RUNNING) {
                    return done;
                }
                doStep();
                if (state == ILLEGAL || state == OUTSIDE) {
                    return done;
                }
            }
            return most;
        }

        int registerAt(int k) {
            switch (k) {
                case 0:
                    return registerA;
                case 1:
                    return registerR;
                case 2:
                    return pc;
                case 3:
                    return state;
                case 4:
                    return putOut;
                default:
                    return latestWord(k - 5);
            }
        }

        int wordAt(int address) {
            return there && isInside(address) ? words[address] : NONE;
        }

        private int latestWord(int age) {
            return isWithin(age, 0, LATEST_WORDS - 1) && age < putOut ? latest[age] : NONE;
        }

        private boolean isInside(int address) {
            return address >= 0 && address < total;
        }

        private void doStep() {
            if (!isInside(pc)) {
                state = OUTSIDE;
                return;
            }
            int operation = words[pc] / 4096;
            int n = words[pc] % 4096;
            if (operation > SHIFT_RIGHT) {
                state = ILLEGAL;
            } else if (isTwoWordsLong(operation)) {
                doTwoWords(operation, n);
            } else {
                doOneWord(operation, n);
            }
        }

        private static boolean isTwoWordsLong(int operation) {
            return isWithin(operation, LOAD_NUMBER, CALL) || operation == LONG_JUMP;
        }

        private void doTwoWords(int operation, int n) {
            if (!isInside(pc + 1) || !mayTouch(operation, words[pc + 1])) {
                state = OUTSIDE;
                return;
            }
            int m = words[pc + 1];
            int next = toWord(pc + 2);
            switch (operation) {
                case LOAD_NUMBER:
                    registerA = m;
                    break;
                case LOAD_MEMORY:
                    registerA = words[m];
                    break;
                case STORE_MEMORY:
                    words[m] = registerA;
                    break;
                case ADD_MEMORY:
                    registerA = toWord(registerA + words[m]);
                    break;
                case SUBTRACT_MEMORY:
                    registerA = toWord(registerA - words[m]);
                    break;
                case CALL:
                    registerR = next;
                    next = m;
                    break;
                default:
                    next = conditionHolds(n) ? m : next;
                    break;
            }
            pc = next;
        }

        private boolean mayTouch(int operation, int m) {
            if (operation == STORE_MEMORY && m < textWords) {
                return false;
            }
            return !isWithin(operation, LOAD_MEMORY, SUBTRACT_MEMORY) || isInside(m);
        }

        private void doOneWord(int operation, int n) {
            if (operation == LOAD_AT_A && !isInside(registerA)) {
                state = OUTSIDE;
                return;
            }
            int next = toWord(pc + 1);
            switch (operation) {
                case HALT:
                    state = HALTED;
                    next = pc;
                    break;
                case RETURN:
                    next = registerR;
                    break;
                case SHORT_JUMP:
                    next = conditionHolds(n) ? toWord(next + signed(n % 256)) : next;
                    break;
                case PUT_OUT:
                    putOutA();
                    break;
                case TAKE_IN:
                    registerA = nextOfTape();
                    break;
                case LOAD_AT_A:
                    registerA = words[registerA];
                    break;
                default:
                    registerA = registerA >>> (n % 16);
                    break;
            }
            pc = next;
        }

        private static int signed(int low) {
            return low > 127 ? low - 256 : low;
        }

        private boolean conditionHolds(int n) {
            switch (n / 256 % 4) {
                case 0:
                    return true;
                case 1:
                    return registerA == 0;
                case 2:
                    return registerA >= 32768;
                default:
                    return registerA != 0;
            }
        }

        private void putOutA() {
            for (int age = LATEST_WORDS - 1; age > 0; age--) {
                latest[age] = latest[age - 1];
            }
            latest[0] = registerA;
            putOut++;
        }

        private int nextOfTape() {
            if (taken >= fed) {
                return 0;
            }
            int next = tape[taken];
            taken++;
            return next;
        }
    }
}
