/** The edges of statements: what the Terms say of them, and promises 2 (add), 3 (clear), 4 (length). */
public final class StatementEdgesTest extends Check {
    private static final int[] HOLDERS = {LABEL, VALUE, COMMON};
    private static final int[] NAMING = {LABEL, GLOBAL, ADDRESS, JUMP, COMMON, VALUE};

    public static void main(String[] args) {
        StatementEdgesTest t = new StatementEdgesTest();
        t.names();
        t.modules();
        t.kinds();
        t.twentyStatements();
        t.numbersOfSection();
        t.numbersOfNumber();
        t.numbersOfAddress();
        t.numbersOfSpace();
        t.numbersOfJump();
        t.numbersOfCommon();
        t.numbersOfValue();
        t.unseenSecondNumber();
        t.firstStatement();
        t.sectionOfTheOneBefore();
        t.notInBss();
        t.textAlone();
        t.everySectionTakesTheRest();
        t.onlyOneHolder();
        t.globalAgain();
        t.placesOfLabels();
        t.clearedCount();
        t.clearNoModule();
        t.clearStays();
        t.clearForgets();
        t.lengthOfEmpty();
        t.lengthOfFull();
        t.lengthOfNothing();
        t.end();
    }

    private void taken(int kind, int a, int b, boolean want) {
        String call = "add(5, " + kind + ", " + a + ", " + b + ")";
        SpanLinker x = new SpanLinker();
        due(call, x.add(5, kind, a, b), want);
        due("clear(5) after " + call, x.clear(5), want ? 1 : 0);
    }

    private void names() {
        sentence("NAMES are 0 .. 15 / a name is not 0 .. 15");
        for (int kind : NAMING) {
            for (int name = 0; name < 16; name++) {
                taken(kind, name, 1, true);
            }
            for (int name : beside(0, 15)) {
                taken(kind, name, 1, false);
            }
        }
    }

    private void modules() {
        sentence("There are six MODULES, 0 .. 5 / no such module");
        SpanLinker x = new SpanLinker();
        for (int module = 0; module < 6; module++) {
            due("add(" + module + ")", x.add(module, NUMBER, 1, 0), true);
        }
        for (int module : beside(0, 5)) {
            for (int kind = 0; kind < 9; kind++) {
                due("add(" + module + ", " + kind + ")", x.add(module, kind, 1, 1), false);
            }
        }
        for (int module = 0; module < 6; module++) {
            due("clear(" + module + ")", x.clear(module), 1);
        }
    }

    private void kinds() {
        sentence("no such .. kind");
        for (int kind = 0; kind < 9; kind++) {
            taken(kind, 1, 1, true);
        }
        for (int kind : beside(0, 8)) {
            taken(kind, 1, 1, false);
        }
    }

    private void twentyStatements() {
        sentence("each is a list of at most 20 STATEMENTS / the module has 20 statements");
        for (int kind = 0; kind < 9; kind++) {
            int module = kind % 6;
            SpanLinker x = new SpanLinker();
            for (int k = 0; k < 19; k++) {
                due("statement " + k, x.add(module, GLOBAL, 0, 0), true);
            }
            due("kind " + kind + " as the twentieth", x.add(module, kind, 1, 1), true);
            due("isLong(19)", x.isLong(module, 19), kind == JUMP);
            for (int more = 0; more < 9; more++) {
                due("kind " + more + " as the 21st", x.add(module, more, 2, 2), false);
            }
            due("isLong(20)", x.isLong(module, 20), false);
            due("another module has room", x.add((module + 1) % 6, kind, 1, 1), true);
            due("clear", x.clear(module), 20);
            due("room again", x.add(module, kind, 2, 2), true);
        }
    }

    private void numbersOfSection() {
        sentence("SECTION a: this statement and what follows are in section a (0 .. 2)");
        for (int section = 0; section < 3; section++) {
            SpanLinker x = new SpanLinker();
            write(x, 0, s(SECTION, section), s(SPACE, 3));
            due("its words", x.length(0, section), 3);
        }
        for (int section : beside(0, 2)) {
            taken(SECTION, section, 0, false);
        }
    }

    private void numbersOfNumber() {
        sentence("WORDS are numbers 0 .. 65535 / a NUMBER .. [is a word]");
        SpanLinker x = new SpanLinker();
        write(x, 0, s(NUMBER, 0), s(NUMBER, 1), s(NUMBER, 32767), s(NUMBER, 32768), s(NUMBER, 65535));
        items(x, 0);
        due("link", x.link(-1), 0);
        words("the numbers", x, 0, 1, 32767, 32768, 65535);
        for (int number : beside(0, 65535)) {
            taken(NUMBER, number, 0, false);
        }
    }

    private void numbersOfAddress() {
        sentence("ADDRESS a, b: .. (b is -32768 .. 32767)");
        SpanLinker x = new SpanLinker();
        write(x, 0, s(VALUE, 0, 32768), s(ADDRESS, 0, -32768), s(ADDRESS, 0, 32767), s(ADDRESS, 0, 0));
        items(x, 0);
        due("link", x.link(-1), 0);
        words("the sums", x, 0, 65535, 32768);
        for (int b : beside(-32768, 32767)) {
            taken(ADDRESS, 0, b, false);
        }
    }

    private void numbersOfSpace() {
        sentence("SPACE a: a words (1 .. 16), all 0");
        for (int section = 0; section < 3; section++) {
            SpanLinker x = new SpanLinker();
            write(x, 0, s(SECTION, section), s(SPACE, 1));
            due("one word", x.length(0, section), 1);
            write(x, 0, s(SPACE, 16));
            due("sixteen more", x.length(0, section), 17);
            items(x, 0);
            due("link", x.link(-1), 0);
            words("all 0", x, new int[17]);
        }
        for (int a : beside(1, 16)) {
            taken(SPACE, a, 1, false);
        }
    }

    private void numbersOfJump() {
        sentence("JUMP a, b: .. under the condition b (0 .. 3)");
        SpanLinker x = new SpanLinker();
        write(x, 0, s(LABEL, 0), s(JUMP, 0, 0), s(JUMP, 0, 1), s(JUMP, 0, 2), s(JUMP, 0, 3));
        items(x, 0);
        due("link", x.link(-1), 0);
        words("the conditions", x, 0x90ff, 0x91fe, 0x92fd, 0x93fc);
        for (int b : beside(0, 3)) {
            taken(JUMP, 0, b, false);
        }
    }

    private void numbersOfCommon() {
        sentence("COMMON a, b: a is a COMMON of this module, of b words (1 .. 16); it takes no words here");
        int[] lengths = {1, 16};
        for (int length : lengths) {
            SpanLinker x = new SpanLinker();
            write(x, 0, s(COMMON, 0, length));
            for (int section = 0; section < 3; section++) {
                due("no words here", x.length(0, section), 0);
            }
            items(x, 0);
            due("link", x.link(-1), 0);
            sizes("of " + length, x, 0, 0, length);
        }
        for (int b : beside(1, 16)) {
            taken(COMMON, 0, b, false);
        }
    }

    private void numbersOfValue() {
        sentence("VALUE a, b: .. stands for the word b / the b of VALUE [is a word]");
        SpanLinker x = new SpanLinker();
        write(x, 0, s(VALUE, 0, 0), s(VALUE, 15, 65535), s(GLOBAL, 0), s(GLOBAL, 15));
        items(x, 0);
        due("link", x.link(-1), 0);
        due("symbol(0)", x.symbol(0), 0);
        due("symbol(15)", x.symbol(15), 65535);
        for (int b : beside(0, 65535)) {
            taken(VALUE, 0, b, false);
        }
    }

    private void unseenSecondNumber() {
        sentence("(b is not looked at in 0, 1, 2, 3 and 5.)");
        int[] unseeing = {LABEL, GLOBAL, SECTION, NUMBER, SPACE};
        for (int kind : unseeing) {
            for (int b : beside(0, 0)) {
                taken(kind, 1, b, true);
            }
        }
    }

    private void firstStatement() {
        sentence("The first statement of a module is in section text");
        for (int module = 0; module < 6; module++) {
            SpanLinker x = new SpanLinker();
            write(x, (module + 1) % 6, s(SECTION, BSS));
            due("a JUMP as the first", x.add(module, JUMP, 1, 0), true);
            due("its words", x.length(module, TEXT), 2);
        }
    }

    private void sectionOfTheOneBefore() {
        sentence("each other one in the section of the statement before it, unless SECTION changes it");
        int[][] between = {s(LABEL, 1), s(GLOBAL, 2), s(COMMON, 3, 1), s(VALUE, 4, 0), s(SPACE, 2)};
        for (int section = 0; section < 3; section++) {
            SpanLinker x = new SpanLinker();
            write(x, 0, s(SECTION, section));
            write(x, 0, between);
            due("a NUMBER in " + section, x.add(0, NUMBER, 1, 0), section != BSS);
            due("a JUMP in " + section, x.add(0, JUMP, 1, 0), section == TEXT);
            write(x, 0, s(SECTION, section), s(SPACE, 1), s(SECTION, (section + 1) % 3), s(SPACE, 5));
            due("the next section", x.length(0, (section + 1) % 3), 5);
            write(x, 0, s(SECTION, section), s(SPACE, 16));
            due("its section again", x.length(0, section), section == BSS ? 19 : section == DATA ? 20 : 21);
        }
    }

    private void notInBss() {
        sentence("NUMBER and ADDRESS may not stand in bss");
        SpanLinker x = new SpanLinker();
        write(x, 0, s(SECTION, BSS));
        due("NUMBER in bss", x.add(0, NUMBER, 0, 0), false);
        due("ADDRESS in bss", x.add(0, ADDRESS, 1, 0), false);
        write(x, 0, s(SECTION, DATA), s(NUMBER, 0), s(ADDRESS, 1, 0));
        write(x, 0, s(SECTION, TEXT), s(NUMBER, 0), s(ADDRESS, 1, 0));
        write(x, 0, s(SECTION, BSS));
        due("NUMBER in bss again", x.add(0, NUMBER, 65535, 0), false);
        due("ADDRESS in bss again", x.add(0, ADDRESS, 1, 1), false);
        due("statements", x.clear(0), 8);
    }

    private void textAlone() {
        sentence("JUMP in text alone");
        SpanLinker x = new SpanLinker();
        write(x, 0, s(JUMP, 1, 0), s(SECTION, DATA));
        due("JUMP in data", x.add(0, JUMP, 1, 0), false);
        write(x, 0, s(SECTION, BSS));
        due("JUMP in bss", x.add(0, JUMP, 1, 3), false);
        write(x, 0, s(SECTION, TEXT), s(JUMP, 1, 0));
        due("statements", x.clear(0), 5);
    }

    private void everySectionTakesTheRest() {
        sentence("the statement may not stand in that section");
        int[] anywhere = {LABEL, GLOBAL, SECTION, SPACE, COMMON, VALUE};
        for (int section = 0; section < 3; section++) {
            for (int kind : anywhere) {
                SpanLinker x = new SpanLinker();
                write(x, 0, s(SECTION, section));
                due("kind " + kind + " in " + section, x.add(0, kind, 1, 1), true);
            }
        }
    }

    private void onlyOneHolder() {
        sentence("A name may have only one of LABEL, VALUE and COMMON in a module, once");
        for (int first : HOLDERS) {
            for (int second : HOLDERS) {
                SpanLinker x = new SpanLinker();
                for (int name = 0; name < 16; name++) {
                    due(first + " of " + name, x.add(0, first, name, 1), true);
                    due(second + " of it as well", x.add(0, second, name, 1), false);
                    due(second + " in another module", x.add(1, second, name, 1), true);
                }
                write(x, 0, s(SECTION, BSS));
                due(second + " in another section", x.add(0, second, 15, 1), false);
                due("statements", x.clear(0), 17);
            }
        }
    }

    private void globalAgain() {
        sentence("GLOBAL may be said again, which is one more statement and nothing else");
        SpanLinker x = new SpanLinker();
        write(x, 0, s(LABEL, 3));
        for (int k = 0; k < 19; k++) {
            due("GLOBAL once more", x.add(0, GLOBAL, 3, 0), true);
        }
        due("the 21st statement", x.add(0, GLOBAL, 3, 0), false);
        due("no words", x.length(0, TEXT), 0);
        items(x, 0);
        due("exported by one module only", x.link(3), 0);
        due("statements", x.clear(0), 20);
    }

    private void placesOfLabels() {
        sentence("the PLACE of a statement is how many words of its module lie in its section before it");
        int[] firsts = {0, 0, 12};
        for (int section = 0; section < 3; section++) {
            int other = (section + 1) % 3;
            SpanLinker x = new SpanLinker();
            write(x, 0, s(SECTION, other), s(SPACE, 5), s(SECTION, section), s(LABEL, 0), s(GLOBAL, 0),
                s(SPACE, 2), s(SECTION, other), s(SPACE, 7), s(SECTION, section), s(LABEL, 1), s(GLOBAL, 1),
                s(SPACE, 16), s(LABEL, 2), s(GLOBAL, 2));
            items(x, 0);
            due("link", x.link(-1), 0);
            due("at the section's start", x.symbol(0), firsts[section]);
            due("behind two words", x.symbol(1), firsts[section] + 2);
            due("at the section's end", x.symbol(2), firsts[section] + 18);
        }
    }

    private void clearedCount() {
        sentence("Takes all statements of a module away: how many there were");
        SpanLinker x = new SpanLinker();
        for (int count = 0; count <= 20; count++) {
            for (int k = 0; k < count; k++) {
                x.add(2, GLOBAL, 1, 0);
            }
            due("clear of " + count, x.clear(2), count);
            due("clear again", x.clear(2), 0);
        }
        write(x, 1, s(NUMBER, 1));
        write(x, 3, s(NUMBER, 1), s(NUMBER, 2));
        due("one module alone is cleared", x.clear(2), 0);
        due("clear(1)", x.clear(1), 1);
        due("clear(3)", x.clear(3), 2);
    }

    private void clearNoModule() {
        sentence("-1 when there is no such module");
        SpanLinker x = new SpanLinker();
        write(x, 0, s(NUMBER, 1));
        write(x, 5, s(NUMBER, 1));
        for (int module : beside(0, 5)) {
            due("clear(" + module + ")", x.clear(module), -1);
        }
        due("clear(0)", x.clear(0), 1);
        due("clear(5)", x.clear(5), 1);
    }

    private void clearStays() {
        sentence("(It stays where it stands in the archive or on the line.)");
        SpanLinker x = new SpanLinker();
        stores(x, 3, 1, 4);
        items(x, 2, 0, 5);
        for (int module = 0; module < 6; module++) {
            write(x, module, s(NUMBER, module));
            due("clear(" + module + ")", x.clear(module), 1);
        }
        members("cleared", x, 3, 1, 4);
        due("link", x.link(-1), 0);
        included("cleared", x, 2, 0, 5);
        due("on the line still", x.item(0), false);
        due("in the archive still", x.item(1), false);
    }

    private void clearForgets() {
        sentence("Takes all statements of a module away");
        SpanLinker x = new SpanLinker();
        write(x, 0, s(JUMP, 1, 0), s(LABEL, 2), s(GLOBAL, 2), s(GLOBAL, 3), s(COMMON, 4, 9), s(VALUE, 5, 6),
            s(GLOBAL, 5), s(ADDRESS, 6, 0), s(SECTION, BSS), s(SPACE, 4));
        items(x, 0);
        due("clear", x.clear(0), 10);
        for (int section = 0; section < 3; section++) {
            due("length", x.length(0, section), 0);
        }
        due("isLong", x.isLong(0, 0), false);
        due("nothing is referred to", x.link(-1), 0);
        sizes("no COMMON", x, 0, 0, 0);
        due("a label is no longer exported", x.link(2), SpanLinker.UNDEFINED);
        due("a VALUE is no longer exported", x.link(5), SpanLinker.UNDEFINED);
        write(x, 0, s(JUMP, 2, 0), s(LABEL, 4), s(LABEL, 5), s(LABEL, 2));
        due("in text, and short", x.isLong(0, 0), false);
        due("a name is no longer global", x.link(2), SpanLinker.UNDEFINED);
    }

    private void lengthOfEmpty() {
        sentence("How many words the section (0 .. 2) of the module has: of an empty one");
        SpanLinker x = new SpanLinker();
        for (int module = 0; module < 6; module++) {
            write(x, module, s(LABEL, 0), s(GLOBAL, 0), s(SECTION, BSS), s(COMMON, 1, 16), s(VALUE, 2, 9));
            for (int section = 0; section < 3; section++) {
                due("length(" + module + ", " + section + ")", x.length(module, section), 0);
            }
        }
    }

    private void lengthOfFull() {
        sentence("How many words the section (0 .. 2) of the module has: of a full one");
        for (int section = 0; section < 3; section++) {
            SpanLinker x = new SpanLinker();
            write(x, 4, s(SECTION, section));
            for (int k = 1; k < 20; k++) {
                write(x, 4, s(SPACE, 16));
                due("length(4, " + section + ")", x.length(4, section), 16 * k);
            }
            due("the 21st adds none", x.add(4, SPACE, 16, 0), false);
            due("length(4, " + section + ")", x.length(4, section), 304);
            due("the section beside", x.length(4, (section + 1) % 3), 0);
            due("the module beside", x.length(3, section), 0);
        }
        SpanLinker y = new SpanLinker();
        for (int k = 0; k < 20; k++) {
            write(y, 0, s(SPACE, 16));
        }
        due("the longest text", y.length(0, TEXT), 320);
    }

    private void lengthOfNothing() {
        sentence("-1 when there is no such module or section");
        SpanLinker x = new SpanLinker();
        write(x, 0, s(NUMBER, 1));
        write(x, 5, s(NUMBER, 1));
        for (int module : beside(0, 5)) {
            for (int section = 0; section < 3; section++) {
                due("length(" + module + ", " + section + ")", x.length(module, section), -1);
            }
        }
        for (int section : beside(0, 2)) {
            due("length(0, " + section + ")", x.length(0, section), -1);
            due("length(5, " + section + ")", x.length(5, section), -1);
            due("length(6, " + section + ")", x.length(6, section), -1);
        }
    }
}
