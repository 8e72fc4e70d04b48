/** Promises 1 to 8 and the text format (section 6). */
public final class InputTests {
    private static final String GROUPS = "crossed;group a cyclic 4;group b cyclic 2";
    private static final String MODULE = GROUPS + ";module m b a 0 2";

    public static void main(String[] args) {
        newObject();
        appending();
        loading();
        loadKeepsOrReplaces();
        goodTexts();
        badTokens();
        numbersOutOfBounds();
        wrongNames();
        tooMany();
        smallestCode();
        countsAndLetters();
        Checks.finish("InputTests");
    }

    private static void newObject() {
        CrossedModules x = new CrossedModules();
        Checks.due("1 buffered", 0, x::buffered);
        Checks.due("1 undoable", 0, x::undoable);
        Checks.due("4 parseError before a load", 0, x::parseError);
        Checks.due("5 errorPosition before a load", -1, x::errorPosition);
        Checks.refused("1 count", Checks.STATE, () -> x.count(0));
        Checks.refused("1 textByte", Checks.INDEX, () -> x.textByte(0));
        Checks.due("NONE", -1, () -> CrossedModules.NONE);
    }

    private static void appending() {
        CrossedModules x = new CrossedModules();
        for (int i = 1; i <= 45; i++) {
            int due = 20 * i;
            Checks.due("2 append", due, () -> x.append(-1, 0, 0, 0, 0));
        }
        Checks.due("2 the 46th append", -1, () -> x.append(0, 0, 0, 0, 0));
        Checks.due("6 buffered stays", 900, x::buffered);
        Checks.refused("3 load of a full buffer", Checks.ARGUMENT, () -> x.load(900));
        Checks.due("6 buffered is 0 behind load", 0, x::buffered);
        String whole = "crossed" + " ".repeat(893);
        Checks.due("2 a text of 900 bytes", 0, () -> Checks.load(x, whole));
        Checks.due("2 the most significant byte first", 20,
                () -> x.append(0x63726f73, 0x7365643b, 0x67726f75, 0x70207120, 0x6379636c));
        Checks.due("2 append behind append", 40, () -> x.append(0x69632037, -1, -1, -1, -1));
        Checks.due("3 load of these", 0, () -> x.load(24));
        Checks.due("9 the group of these", 7, () -> x.size(0));
    }

    private static void loading() {
        CrossedModules x = new CrossedModules();
        Checks.feed(x, "crossed");
        Checks.refused("3 n below 0", Checks.INDEX, () -> x.load(-1));
        Checks.refused("3 n above the bytes", Checks.INDEX, () -> x.load(21));
        Checks.refused("3 n far above", Checks.INDEX, () -> x.load(Integer.MAX_VALUE));
        Checks.refused("3 n far below", Checks.INDEX, () -> x.load(Integer.MIN_VALUE));
        Checks.due("3 the buffer stays", 20, x::buffered);
        Checks.due("4 no code yet", 0, x::parseError);
        Checks.refused("3 all of the bytes, with letters behind", Checks.ARGUMENT, () -> x.load(20));
        Checks.due("4 code", 1, x::parseError);
        Checks.due("5 position", 0, x::errorPosition);
        Checks.due("3 the buffer is empty behind an error", 0, x::buffered);
        Checks.refused("3 n above none", Checks.INDEX, () -> x.load(1));
        Checks.due("4 the code stays", 1, x::parseError);
        Checks.due("5 the position stays", 0, x::errorPosition);
        Checks.refused("3 no text yet", Checks.STATE, () -> x.count(0));
        Checks.due("3 a good text", 0, () -> Checks.load(x, "crossed"));
        Checks.due("4 code 0", 0, x::parseError);
        Checks.due("5 no position", -1, x::errorPosition);
        Checks.due("3 the number of modules", 1, () -> Checks.load(x, MODULE));
    }

    private static void loadKeepsOrReplaces() {
        CrossedModules x = Checks.loaded(MODULE + ";arrow f m m 0 1 0 1 2 3");
        x.setBoundary(0, 1, 3);
        x.save(1);
        x.setTop(0, 1, 0);
        Checks.refused("3 an error behind three lines", Checks.ARGUMENT,
                () -> Checks.load(x, "crossed;group q quaternion;group t cyclic 1;module z q q 0 0 0 0 0 0 0 0;act z 9"));
        Checks.due("3 groups stay", 2, () -> x.count(0));
        Checks.due("3 arrows stay", 1, () -> x.count(2));
        Checks.due("3 sizes stay", 4, () -> x.size(0));
        Checks.due("3 boundaries stay", 3, () -> x.boundary(0, 1));
        Checks.due("3 accounts stay", 2, () -> x.account(0));
        Checks.due("3 changes can still be undone", 2, x::undoable);
        Checks.due("3 undo goes on", 1, x::undo);
        Checks.due("3 saved states stay", 0, () -> x.restore(1));
        x.rest(0);
        Checks.due("3 another text", 1, () -> Checks.load(x, "crossed;group c cyclic 3;module z c c 0 1 2"));
        Checks.due("3 groups are replaced", 1, () -> x.count(0));
        Checks.due("3 arrows are replaced", 0, () -> x.count(2));
        Checks.due("3 sizes are replaced", 3, () -> x.size(0));
        Checks.due("3 accounts are 0", 0, () -> x.account(0) + x.account(1) + x.account(2));
        Checks.due("3 nothing can be undone", 0, x::undoable);
        Checks.refused("3 undo behind load", Checks.STATE, x::undo);
        Checks.refused("3 no state is saved", Checks.STATE, () -> x.restore(1));
    }

    private static void good(String text, int modules) {
        CrossedModules x = new CrossedModules();
        Checks.due("3 " + text, modules, () -> Checks.load(x, text));
        Checks.due("4 " + text, 0, x::parseError);
        Checks.due("5 " + text, -1, x::errorPosition);
    }

    private static void bad(String text, int code, int position) {
        CrossedModules x = new CrossedModules();
        Checks.refused("3 " + text, Checks.ARGUMENT, () -> Checks.load(x, text));
        Checks.due("4 " + text, code, x::parseError);
        Checks.due("5 " + text, position, x::errorPosition);
    }

    private static void goodTexts() {
        good("   crossed   ", 0);
        good("crossed;group group cyclic 1;group cyclic cyclic 08;group product product group cyclic", 0);
        good("crossed ; group a cyclic4;module m a a 00 1 02 3;act m 1 0 1 2 3;arrow m m m 0 1 2 3 0 1 2 3", 1);
        good("crossed;group abcdefghij dihedral 3;group b dihedral 4;group q quaternion", 0);
        good(MODULE + ";module n b b 0 1;act m 0 0 1;act n 0 0 1;act m 3 0 1;arrow f n m 0 1 0 2", 2);
        good("crossed;group t cyclic 1;module m t t 0;act m 0 0;arrow f m m 0 0", 1);
        good("crossed;group g cyclic 1;module g g g 0;arrow g g g 0 0;group h product g g;module h h h 0", 2);
    }

    private static void badTokens() {
        bad("", 1, 0);
        bad("  ", 1, 2);
        bad("Crossed", 1, 0);
        bad("crosse", 1, 0);
        bad("crossedd", 1, 0);
        bad(" group a cyclic 1", 1, 1);
        bad("crossed crossed", 1, 8);
        bad("crossed;", 1, 8);
        bad("crossed; ", 1, 9);
        bad("crossed;;", 1, 8);
        bad("crossed;line", 1, 8);
        bad("crossed;1", 1, 8);
        bad("crossed;group", 1, 13);
        bad("crossed;group ;", 1, 14);
        bad("crossed;group 1", 1, 14);
        bad("crossed;group abcdefghijk cyclic 1", 1, 14);
        bad("crossed;group a", 1, 15);
        bad("crossed;group a 4", 1, 16);
        bad("crossed;group a cyclic", 1, 22);
        bad("crossed;group a cyclic b", 1, 23);
        bad("crossed;group a cyclic 001", 1, 23);
        bad("crossed;group a cyclic 100", 1, 23);
        bad("crossed;group a dihedral x", 1, 25);
        bad("crossed;group a quaternion 8", 1, 27);
        bad("crossed;group a product 8", 1, 24);
        bad("crossed;group a cyclic 1\t", 1, 24);
        bad("crossed;group a cyclic 1\0", 1, 24);
        bad("crossed;group a cyclic 1" + (char) 233, 1, 24);
        bad("crossed;group A cyclic 1", 1, 14);
        bad("crossed;group a`cyclic 1", 1, 15);
        bad("crossed;group a{cyclic 1", 1, 15);
        bad("crossed;group a cyclic /", 1, 23);
        bad("crossed;group a cyclic :", 1, 23);
        bad(GROUPS + ";module m b", 1, 52);
        bad(GROUPS + ";module m 0", 1, 51);
        bad(GROUPS + ";module m b a;", 1, 54);
        bad(GROUPS + ";module m b a 0;", 1, 56);
        bad(GROUPS + ";module m b a 0 x", 1, 57);
        bad(MODULE + " 9", 1, 59);
        bad(MODULE + " a", 1, 59);
        bad(MODULE + ";act 1", 1, 63);
        bad(MODULE + ";act m", 1, 64);
        bad(MODULE + ";act m m", 1, 65);
        bad(MODULE + ";act m 1 0", 1, 68);
        bad(MODULE + ";act m 1 0 1 1", 1, 71);
        bad(MODULE + ";arrow f m", 1, 68);
        bad(MODULE + ";arrow f m 0", 1, 69);
        bad(MODULE + ";arrow f m m 0 1 0 1 2", 1, 80);
        bad(MODULE + ";arrow f m m 0 1 0 1 2 3 0", 1, 83);
    }

    private static void numbersOutOfBounds() {
        bad("crossed;group a cyclic 0", 2, 23);
        bad("crossed;group a cyclic 9", 2, 23);
        bad("crossed;group a cyclic 99 1", 2, 23);
        bad("crossed;group a dihedral 2", 2, 25);
        bad("crossed;group a dihedral 05", 2, 25);
        bad(GROUPS + ";module m a b 0 1 2 0", 2, 59);
        bad(GROUPS + ";module m b a 4 0", 2, 55);
        bad(MODULE + ";act m 4 0 1", 2, 65);
        bad(MODULE + ";act m 1 0 2", 2, 69);
        bad(MODULE + ";arrow f m m 0 2 0 1 2 3", 2, 73);
        bad(MODULE + ";arrow f m m 0 1 0 1 2 4", 2, 81);
        bad(MODULE + ";module n b b 0 0;arrow f m n 0 1 0 1 2 0", 2, 96);
        bad(MODULE + ";module n b b 0 0;arrow f n m 0 2", 2, 90);
        good(MODULE + ";module n b b 0 0;arrow f n m 0 1 0 3", 2);
    }

    private static void wrongNames() {
        bad("crossed;group a cyclic 1;group a cyclic 1", 3, 31);
        bad("crossed;group a product a a", 3, 24);
        bad("crossed;group a cyclic 1;group b product a b", 3, 43);
        bad("crossed;group a cyclic 1;group b product m a", 3, 41);
        bad("crossed;group a cyclic 1;group ab product aa a", 3, 42);
        bad("crossed;module m a a 0", 3, 17);
        bad(GROUPS + ";module m b c 0 0", 3, 53);
        bad(GROUPS + ";module m m b 0 0", 3, 51);
        bad(MODULE + ";module m b b 0 0", 3, 66);
        bad(MODULE + ";act n 0 0 1", 3, 63);
        bad(MODULE + ";act a 0 0 1", 3, 63);
        bad(MODULE + ";act m 1 0 1;act m 2 0 1;act m 1 0 1", 3, 89);
        bad(MODULE + ";arrow f n m 0 1 0 1 2 3", 3, 67);
        bad(MODULE + ";arrow f m f 0 1 0 1 2 3", 3, 69);
        bad(MODULE + ";arrow f m m 0 1 0 1 2 3;arrow f m m 0 1 0 1 2 3", 3, 89);
        good(MODULE + ";arrow f m m 0 1 0 1 2 3;arrow fa m m 0 1 0 1 2 3", 1);
    }

    private static String many(String start, String line, int n) {
        StringBuilder text = new StringBuilder(start);
        for (int i = 0; i < n; i++) {
            text.append(line.replace('#', (char) ('a' + i)));
        }
        return text.toString();
    }

    private static void tooMany() {
        String six = many("crossed", ";group # cyclic 1", 6);
        good(six, 0);
        bad(six + "; group", 4, six.length() + 2);
        String modules = many("crossed;group a cyclic 1", ";module # a a 0", 6);
        good(modules, 6);
        bad(modules + ";module", 4, modules.length() + 1);
        String arrows = many("crossed;group a cyclic 1;module m a a 0", ";arrow # m m 0 0", 8);
        good(arrows, 1);
        bad(arrows + ";arrow", 4, arrows.length() + 1);
        good(arrows + ";module z a a 0;act z 0 0", 2);
        bad("crossed;group a cyclic 3;group b product a a", 4, 43);
        good("crossed;group a cyclic 2;group b cyclic 4;group c product a b", 0);
        good("crossed;group a cyclic 1;group b quaternion;group c product b a", 0);
        bad("crossed;group a cyclic 2;group b quaternion;group c product b a", 4, 62);
    }

    private static void smallestCode() {
        String six = many("crossed", ";group # cyclic 1", 6);
        bad(six + ";groupgroupg", 1, six.length() + 1);
        bad(six + ";group a cyclic 9", 4, six.length() + 1);
        bad(MODULE + ";act m 99 5 5", 2, 65);
        bad("crossed;group a cyclic 9;;", 2, 23);
    }

    private static void countsAndLetters() {
        CrossedModules x = Checks.loaded("crossed;group abcdefghij cyclic 2;group z cyclic 1"
                + ";module mn abcdefghij z 0 0;arrow arrow mn mn 0 1 0");
        Checks.due("7 groups", 2, () -> x.count(0));
        Checks.due("7 modules", 1, () -> x.count(1));
        Checks.due("7 arrows", 1, () -> x.count(2));
        Checks.refused("7 sort 3", Checks.ARGUMENT, () -> x.count(3));
        Checks.refused("7 sort -1", Checks.ARGUMENT, () -> x.count(-1));
        for (int i = 0; i < 10; i++) {
            int at = i;
            Checks.due("8 letter " + i, 'a' + i, () -> x.letter(0, 0, at));
        }
        Checks.due("8 second group", 'z', () -> x.letter(0, 1, 0));
        Checks.due("8 module", 'n', () -> x.letter(1, 0, 1));
        Checks.due("8 arrow", 'o', () -> x.letter(2, 0, 3));
        Checks.refused("8 behind the last letter", Checks.INDEX, () -> x.letter(0, 0, 10));
        Checks.refused("8 behind a short name", Checks.INDEX, () -> x.letter(0, 1, 1));
        Checks.refused("8 letter -1", Checks.INDEX, () -> x.letter(2, 0, -1));
        Checks.refused("8 no such group", Checks.INDEX, () -> x.letter(0, 2, 0));
        Checks.refused("8 no such module", Checks.INDEX, () -> x.letter(1, 1, 0));
        Checks.refused("8 arrow -1", Checks.INDEX, () -> x.letter(2, -1, 0));
        Checks.refused("8 sort 3", Checks.ARGUMENT, () -> x.letter(3, 0, 0));
        Checks.refused("8 sort -1 and no such name", Checks.ARGUMENT, () -> x.letter(-1, 9, 9));
        CrossedModules none = new CrossedModules();
        Checks.refused("7 no text", Checks.STATE, () -> none.count(7));
        Checks.refused("8 no text", Checks.STATE, () -> none.letter(7, 7, 7));
    }
}
