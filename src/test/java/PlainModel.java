import java.util.ArrayList;
import java.util.Arrays;
import java.util.HashSet;
import java.util.List;
import java.util.Set;
import java.util.TreeMap;
import java.util.TreeSet;

/**
 * The document a second time, written with the library and without any thought of speed: nothing is
 * kept that can be worked out again. AgainstModelTest compares SpanLinker with it.
 */
final class PlainModel {
    private final List<List<int[]>> modules = new ArrayList<>();
    private final List<Integer> archive = new ArrayList<>();
    private final List<Integer> line = new ArrayList<>();
    private List<Integer> included = new ArrayList<>();
    private Set<Integer> wanted = new TreeSet<>();

    private int[] image;
    private int[] sizes;
    private TreeMap<Integer, Integer> known;
    private boolean stripped;
    private int entry;

    private int[] memory;
    private int a;
    private int r;
    private int pc;
    private int state;
    private List<Integer> tape;
    private int taken;
    private List<Integer> out;

    PlainModel() {
        for (int m = 0; m < 6; m++) {
            modules.add(new ArrayList<>());
        }
    }

    private static boolean in(int v, int least, int most) {
        return least <= v && v <= most;
    }

    /** The section in which statement k stands; k may be one behind the last. */
    private int sectionAt(int m, int k) {
        int section = 0;
        for (int j = 0; j <= k && j < modules.get(m).size(); j++) {
            int[] s = modules.get(m).get(j);
            section = s[0] == 2 ? s[1] : section;
        }
        return section;
    }

    private int holder(int m, int name) {
        for (int k = 0; k < modules.get(m).size(); k++) {
            int[] s = modules.get(m).get(k);
            if ((s[0] == 0 || s[0] == 7 || s[0] == 8) && s[1] == name) {
                return k;
            }
        }
        return -1;
    }

    boolean add(int m, int kind, int x, int y) {
        if (!in(m, 0, 5) || !in(kind, 0, 8) || modules.get(m).size() >= 20) {
            return false;
        }
        int[] least = {0, 0, 0, 0, 0, 1, 0, 0, 0};
        int[] most = {15, 15, 2, 65535, 15, 16, 15, 15, 15};
        if (!in(x, least[kind], most[kind])) {
            return false;
        }
        if (kind == 4 && !in(y, -32768, 32767) || kind == 6 && !in(y, 0, 3)
            || kind == 7 && !in(y, 1, 16) || kind == 8 && !in(y, 0, 65535)) {
            return false;
        }
        int section = sectionAt(m, modules.get(m).size());
        if ((kind == 3 || kind == 4) && section == 2 || kind == 6 && section != 0) {
            return false;
        }
        if ((kind == 0 || kind == 7 || kind == 8) && holder(m, x) >= 0) {
            return false;
        }
        modules.get(m).add(new int[] {kind, x, y});
        return true;
    }

    int clear(int m) {
        if (!in(m, 0, 5)) {
            return -1;
        }
        int count = modules.get(m).size();
        modules.get(m).clear();
        return count;
    }

    private int wordsOf(int m, int k, Set<Integer> longs) {
        int[] s = modules.get(m).get(k);
        switch (s[0]) {
            case 3: case 4: return 1;
            case 5: return s[1];
            case 6: return longs.contains(k) ? 2 : 1;
            default: return 0;
        }
    }

    private int place(int m, int k, Set<Integer> longs) {
        int place = 0;
        for (int j = 0; j < k; j++) {
            place += sectionAt(m, j) == sectionAt(m, k) ? wordsOf(m, j, longs) : 0;
        }
        return place;
    }

    private int distance(int m, int k, Set<Integer> longs) {
        return place(m, holder(m, modules.get(m).get(k)[1]), longs) - place(m, k, longs) - 1;
    }

    /** One jump at a time, the last first: the order must not matter. */
    private Set<Integer> longs(int m) {
        Set<Integer> longs = new HashSet<>();
        int size = modules.get(m).size();
        for (int k = 0; k < size; k++) {
            int[] s = modules.get(m).get(k);
            if (s[0] == 6) {
                int h = holder(m, s[1]);
                if (h < 0 || modules.get(m).get(h)[0] != 0 || sectionAt(m, h) != 0) {
                    longs.add(k);
                }
            }
        }
        boolean again = true;
        while (again) {
            again = false;
            for (int k = size - 1; k >= 0 && !again; k--) {
                if (modules.get(m).get(k)[0] == 6 && !longs.contains(k) && !in(distance(m, k, longs), -8, 7)) {
                    longs.add(k);
                    again = true;
                }
            }
        }
        return longs;
    }

    int length(int m, int section) {
        if (!in(m, 0, 5) || !in(section, 0, 2)) {
            return -1;
        }
        int length = 0;
        for (int k = 0; k < modules.get(m).size(); k++) {
            length += sectionAt(m, k) == section ? wordsOf(m, k, longs(m)) : 0;
        }
        return length;
    }

    boolean isLong(int m, int k) {
        return in(m, 0, 5) && longs(m).contains(k);
    }

    boolean store(int m, int before) {
        if (!in(m, 0, 5) || line.contains(m)) {
            return false;
        }
        if (before != -1 && (before == m || !archive.contains(before))) {
            return false;
        }
        archive.remove(Integer.valueOf(m));
        archive.add(before == -1 ? archive.size() : archive.indexOf(before), m);
        return true;
    }

    boolean remove(int m) {
        return archive.remove(Integer.valueOf(m));
    }

    int member(int k) {
        return in(k, 0, archive.size() - 1) ? archive.get(k) : -1;
    }

    boolean item(int item) {
        if (!in(item, 0, 6) || line.size() >= 8) {
            return false;
        }
        if (item < 6 && (line.contains(item) || archive.contains(item))) {
            return false;
        }
        line.add(item);
        return true;
    }

    void newLine() {
        line.clear();
    }

    private boolean says(int m, int kind, int name) {
        for (int[] s : modules.get(m)) {
            if (s[0] == kind && s[1] == name) {
                return true;
            }
        }
        return false;
    }

    private boolean defines(int m, int name) {
        return says(m, 0, name) || says(m, 8, name);
    }

    private boolean exports(int m, int name) {
        return defines(m, name) && says(m, 1, name);
    }

    private boolean refers(int m, int name) {
        return !defines(m, name) && !says(m, 7, name)
            && (says(m, 1, name) || says(m, 4, name) || says(m, 6, name));
    }

    private int exporters(int name) {
        int count = 0;
        for (int m : included) {
            count += exports(m, name) ? 1 : 0;
        }
        return count;
    }

    private boolean isCommon(int name) {
        for (int m : included) {
            if (says(m, 7, name)) {
                return true;
            }
        }
        return false;
    }

    private boolean isWanted(int name, int want) {
        boolean sought = name == want;
        for (int m : included) {
            sought = sought || refers(m, name);
        }
        return sought && exporters(name) == 0 && !isCommon(name);
    }

    private void searchArchive(int want) {
        boolean again = true;
        while (again) {
            again = false;
            for (int m : archive) {
                boolean takes = false;
                for (int name = 0; name < 16; name++) {
                    takes = takes || exports(m, name) && isWanted(name, want);
                }
                if (takes && !included.contains(m)) {
                    included.add(m);
                    again = true;
                }
            }
        }
    }

    int link(int want) {
        if (!in(want, -1, 15)) {
            return -1;
        }
        image = null;
        memory = null;
        included = new ArrayList<>();
        wanted = new TreeSet<>();
        for (int item : line) {
            if (item == 6) {
                searchArchive(want);
            } else {
                included.add(item);
            }
        }
        boolean twice = false;
        for (int name = 0; name < 16; name++) {
            twice = twice || exporters(name) > 1;
            if (isWanted(name, want)) {
                wanted.add(name);
            }
        }
        if (twice) {
            return -2;
        }
        return wanted.isEmpty() ? layOut(want) : -3;
    }

    private int base(int m, int section) {
        int base = 0;
        for (int s = 0; s <= section; s++) {
            for (int other : included) {
                if (s == section && other == m) {
                    return base;
                }
                base += length(other, s);
            }
        }
        return base;
    }

    private int ownValue(int m, int name) {
        int k = holder(m, name);
        int[] s = modules.get(m).get(k);
        return s[0] == 8 ? s[2] : base(m, sectionAt(m, k)) + place(m, k, longs(m));
    }

    private int value(int m, int name) {
        return defines(m, name) ? ownValue(m, name) : known.get(name);
    }

    private int layOut(int want) {
        sizes = new int[3];
        known = new TreeMap<>();
        for (int m : included) {
            for (int section = 0; section < 3; section++) {
                sizes[section] += length(m, section);
            }
        }
        for (int name = 0; name < 16; name++) {
            if (isCommon(name) && exporters(name) == 0) {
                int most = 0;
                for (int m : included) {
                    most = says(m, 7, name) ? Math.max(most, modules.get(m).get(holder(m, name))[2]) : most;
                }
                known.put(name, sizes[0] + sizes[1] + sizes[2]);
                sizes[2] += most;
            }
            for (int m : included) {
                if (exports(m, name)) {
                    known.put(name, ownValue(m, name));
                }
            }
        }
        int total = sizes[0] + sizes[1] + sizes[2];
        if (total > 200) {
            return -4;
        }
        image = new int[total];
        for (int m : included) {
            writeModule(m);
        }
        stripped = false;
        entry = want == -1 ? 0 : known.get(want);
        return 0;
    }

    private void writeModule(int m) {
        Set<Integer> longs = longs(m);
        for (int k = 0; k < modules.get(m).size(); k++) {
            int[] s = modules.get(m).get(k);
            int address = base(m, sectionAt(m, k)) + place(m, k, longs);
            if (s[0] == 3) {
                image[address] = s[1];
            } else if (s[0] == 4) {
                image[address] = Math.floorMod(value(m, s[1]) + s[2], 65536);
            } else if (s[0] == 6 && longs.contains(k)) {
                image[address] = 8 * 4096 + 256 * s[2];
                image[address + 1] = value(m, s[1]);
            } else if (s[0] == 6) {
                image[address] = 9 * 4096 + 256 * s[2] + Math.floorMod(distance(m, k, longs), 256);
            }
        }
    }

    int included(int k) {
        return in(k, 0, included.size() - 1) ? included.get(k) : -1;
    }

    int missing() {
        int sum = 0;
        for (int name : wanted) {
            sum += (int) Math.pow(2, name);
        }
        return sum;
    }

    int size(int section) {
        return image != null && in(section, 0, 2) ? sizes[section] : -1;
    }

    int word(int address) {
        return image != null && in(address, 0, image.length - 1) ? image[address] : -1;
    }

    int symbol(int name) {
        return image != null && !stripped && known.containsKey(name) ? known.get(name) : -1;
    }

    boolean strip() {
        if (image == null || stripped) {
            return false;
        }
        stripped = true;
        return true;
    }

    boolean start() {
        if (image == null) {
            return false;
        }
        memory = Arrays.copyOf(image, image.length);
        a = 0;
        r = 0;
        pc = entry;
        state = 0;
        tape = new ArrayList<>();
        taken = 0;
        out = new ArrayList<>();
        return true;
    }

    boolean feed(int v) {
        if (memory == null || !in(v, 0, 65535) || tape.size() == 8) {
            return false;
        }
        tape.add(v);
        return true;
    }

    int run(int n) {
        if (memory == null || !in(n, 0, 1000)) {
            return -1;
        }
        int done = 0;
        while (done < n && state == 0) {
            step();
            done += state < 2 ? 1 : 0;
        }
        return done;
    }

    private boolean has(int address) {
        return in(address, 0, memory.length - 1);
    }

    private boolean isOutside() {
        if (!has(pc)) {
            return true;
        }
        int op = memory[pc] >> 12;
        boolean two = in(op, 1, 6) || op == 8;
        if (two && !has(pc + 1)) {
            return true;
        }
        if (in(op, 2, 5) && !has(memory[pc + 1])) {
            return true;
        }
        return op == 12 && !has(a) || op == 3 && memory[pc + 1] < sizes[0];
    }

    private void step() {
        if (isOutside()) {
            state = 3;
            return;
        }
        int w = memory[pc];
        int op = w >> 12;
        int m = has(pc + 1) ? memory[pc + 1] : -1;
        boolean[] conditions = {true, a == 0, a >= 32768, a != 0};
        boolean jumps = conditions[(w >> 8) & 3];
        int next = pc + (in(op, 1, 6) || op == 8 ? 2 : 1);
        switch (op) {
            case 0: state = 1; next = pc; break;
            case 1: a = m; break;
            case 2: a = memory[m]; break;
            case 3: memory[m] = a; break;
            case 4: a = Math.floorMod(a + memory[m], 65536); break;
            case 5: a = Math.floorMod(a - memory[m], 65536); break;
            case 6: r = next; next = m; break;
            case 7: next = r; break;
            case 8: next = jumps ? m : next; break;
            case 9: next = jumps ? next + (byte) w : next; break;
            case 10: out.add(a); break;
            case 11: a = taken < tape.size() ? tape.get(taken++) : 0; break;
            case 12: a = memory[a]; break;
            case 13: a = a >> (w & 15); break;
            default: state = 2; next = pc; break;
        }
        pc = Math.floorMod(next, 65536);
    }

    int register(int k) {
        if (memory == null || !in(k, 0, 8)) {
            return -1;
        }
        if (k >= 5) {
            int at = out.size() - 1 - (k - 5);
            return at >= 0 ? out.get(at) : -1;
        }
        return new int[] {a, r, pc, state, out.size()}[k];
    }

    int memory(int address) {
        return memory != null && has(address) ? memory[address] : -1;
    }
}
