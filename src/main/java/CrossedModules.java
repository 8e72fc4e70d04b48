import java.util.Arrays;

/** Crossed modules of small groups, as ../shared/DOC.md promises them. */
public final class CrossedModules {
    public static final int NONE = -1;

    private static final int MOST_BYTES = 900;
    private static final int BYTES_OF_APPEND = 20;
    private static final int MOST_LETTERS = 10;
    /** A letter is packed as 1 to 26, so that a word fits into a long and no two words are the same there. */
    private static final int BITS_OF_LETTER = 5;
    private static final int LETTER_MASK = 31;
    private static final int MOST_DIGITS = 2;
    private static final int MOST_GROUPS = 6;
    private static final int MOST_MODULES = 6;
    private static final int MOST_ARROWS = 8;
    /** The most elements of a group, and so the width of each row that has a cell for each element. */
    private static final int WIDTH = 8;
    private static final int SORTS = 3;
    private static final int SLOTS = 2;
    private static final int MOST_UNDOS = 8;
    private static final int CHANGES = 0;
    private static final int BROKEN_MODULES = 1;
    private static final int MENDED_MODULES = 2;
    private static final int ACCOUNTS = 3;
    private static final int MODULE_CELLS = WIDTH + WIDTH * WIDTH + 1;
    private static final int ARROW_CELLS = WIDTH + WIDTH;
    private static final int STATE_CELLS = MOST_MODULES * MODULE_CELLS + MOST_ARROWS * ARROW_CELLS + ACCOUNTS;
    /** The longest text is a table: eight rows of eight digits, seven slashes. */
    private static final int MOST_TEXT = 71;

    private final byte[] buffer;
    private int filled;
    private int lastError;
    private int lastErrorAt;
    private boolean loaded;
    private World world;
    /** A text is parsed into this one, so that a text with an error leaves the world as it was. */
    private World spare;
    private final int[][] undoStates;
    private int firstUndo;
    private int undoCount;
    private final int[][] slotStates;
    /** Bit k is set if slot k holds a state. */
    private int savedSlots;
    private final byte[] text;
    private int textLength;

    public CrossedModules() {
        buffer = new byte[MOST_BYTES];
        lastErrorAt = NONE;
        world = new World();
        spare = new World();
        undoStates = new int[MOST_UNDOS][STATE_CELLS];
        slotStates = new int[SLOTS][STATE_CELLS];
        text = new byte[MOST_TEXT];
    }

    // ---- input

    public int append(int a, int b, int c, int d, int e) {
        if (filled + BYTES_OF_APPEND > MOST_BYTES) {
            return NONE;
        }
        appendWord(a);
        appendWord(b);
        appendWord(c);
        appendWord(d);
        appendWord(e);
        return filled;
    }

    public int load(int n) throws IndexOutOfBoundsException, IllegalArgumentException {
        demandThere(n >= 0 && n <= filled);
        spare.clear();
        Parser parser = new Parser(new Tokens(buffer, n), spare);
        boolean read = parser.readText();
        filled = 0;
        lastError = parser.error;
        lastErrorAt = parser.errorAt;
        demandFit(read);
        World previous = world;
        world = spare;
        spare = previous;
        world.settle();
        loaded = true;
        forgetChanges();
        savedSlots = 0;
        return world.moduleNames.total;
    }

    public int parseError() {
        return lastError;
    }

    public int errorPosition() {
        return lastErrorAt;
    }

    public int buffered() {
        return filled;
    }

    // ---- groups

    public int count(int sort) throws IllegalStateException, IllegalArgumentException {
        demandText();
        demandFit(sort >= 0 && sort < SORTS);
        return world.namesOf(sort).total;
    }

    public int letter(int sort, int k, int i)
            throws IllegalStateException, IndexOutOfBoundsException, IllegalArgumentException {
        demandText();
        demandFit(sort >= 0 && sort < SORTS);
        Names names = world.namesOf(sort);
        demandThere(names.has(k) && i >= 0 && i < names.lengthOf(k));
        return names.letterOf(k, i);
    }

    public int size(int group) throws IllegalStateException, IndexOutOfBoundsException {
        return groupAt(group).elements;
    }

    public int times(int group, int a, int b) throws IllegalStateException, IndexOutOfBoundsException {
        Group g = groupAt(group);
        demandThere(g.has(a) && g.has(b));
        return g.product(a, b);
    }

    public int inverse(int group, int a) throws IllegalStateException, IndexOutOfBoundsException {
        Group g = groupAt(group);
        demandThere(g.has(a));
        return g.opposite(a);
    }

    public int orderOf(int group, int a) throws IllegalStateException, IndexOutOfBoundsException {
        Group g = groupAt(group);
        demandThere(g.has(a));
        return g.period(a);
    }

    public int centre(int group) throws IllegalStateException, IndexOutOfBoundsException {
        return groupAt(group).middle();
    }

    public int conjugacy(int group) throws IllegalStateException, IndexOutOfBoundsException {
        return groupAt(group).countConjugateClasses();
    }

    public int generated(int group, int set)
            throws IllegalStateException, IndexOutOfBoundsException, IllegalArgumentException {
        Group g = groupAt(group);
        demandFit(g.hasAll(set));
        return g.closure(set);
    }

    public int normal(int group, int set)
            throws IllegalStateException, IndexOutOfBoundsException, IllegalArgumentException {
        Group g = groupAt(group);
        demandFit(g.hasAll(set));
        return g.normalClosure(set);
    }

    // ---- modules

    public int groupOf(int module, boolean lower) throws IllegalStateException, IndexOutOfBoundsException {
        Crossed m = moduleAt(module);
        return lower ? m.lower.number : m.upper.number;
    }

    public int boundary(int module, int h) throws IllegalStateException, IndexOutOfBoundsException {
        Crossed m = moduleAt(module);
        demandThere(m.upper.has(h));
        return m.boundaryOf(h);
    }

    public int act(int module, int g, int h) throws IllegalStateException, IndexOutOfBoundsException {
        Crossed m = moduleAt(module);
        demandThere(m.lower.has(g) && m.upper.has(h));
        return m.actionOf(g, h);
    }

    public int why(int module) throws IllegalStateException, IndexOutOfBoundsException {
        return moduleAt(module).reason;
    }

    public int lawful() throws IllegalStateException {
        demandText();
        return world.lawfulModules();
    }

    public int kernel(int module) throws IllegalStateException, IndexOutOfBoundsException {
        return moduleAt(module).kernelSet();
    }

    public int image(int module) throws IllegalStateException, IndexOutOfBoundsException {
        return moduleAt(module).imageSet();
    }

    public boolean isCentral(int module) throws IllegalStateException, IndexOutOfBoundsException {
        Crossed m = moduleAt(module);
        return (m.kernelSet() & ~m.upper.middle()) == 0;
    }

    public int fixed(int module, int h) throws IllegalStateException, IndexOutOfBoundsException {
        Crossed m = moduleAt(module);
        demandThere(m.upper.has(h));
        return m.stabilizer(h);
    }

    public int orbit(int module, int h) throws IllegalStateException, IndexOutOfBoundsException {
        Crossed m = moduleAt(module);
        demandThere(m.upper.has(h));
        return m.orbitSet(h);
    }

    // ---- pairs

    public int classes(int module)
            throws IllegalStateException, IndexOutOfBoundsException, IllegalArgumentException {
        return lawfulModuleAt(module).freshPair().classCount;
    }

    public int classOf(int module, int g)
            throws IllegalStateException, IndexOutOfBoundsException, IllegalArgumentException {
        Crossed m = moduleAt(module);
        demandThere(m.lower.has(g));
        demandFit(m.reason == 0);
        return m.freshPair().classHolding(g);
    }

    public int classTimes(int module, int a, int b)
            throws IllegalStateException, IndexOutOfBoundsException, IllegalArgumentException {
        Crossed m = lawfulModuleAt(module);
        Pair pair = m.freshPair();
        demandFit(pair.has(a) && pair.has(b));
        return pair.product(m.lower, a, b);
    }

    public int classAct(int module, int a, int h)
            throws IllegalStateException, IndexOutOfBoundsException, IllegalArgumentException {
        Crossed m = lawfulModuleAt(module);
        Pair pair = m.freshPair();
        demandFit(pair.has(a) && m.upper.has(h) && m.boundaryOf(h) == 0);
        return m.actionOf(pair.leastOf(a), h);
    }

    public int profile(int module, boolean lower, int order)
            throws IllegalStateException, IndexOutOfBoundsException, IllegalArgumentException {
        Crossed m = lawfulModuleAt(module);
        demandFit(order >= 1 && order <= WIDTH);
        Pair pair = m.freshPair();
        return at(lower ? pair.classOrders : pair.kernelOrders, order);
    }

    public boolean areAlike(int module, int other)
            throws IllegalStateException, IndexOutOfBoundsException, IllegalArgumentException {
        Crossed first = moduleAt(module);
        Crossed second = moduleAt(other);
        demandFit(first.reason == 0 && second.reason == 0);
        return first.freshPair().matches(second.freshPair());
    }

    public int kinds() throws IllegalStateException {
        demandText();
        int n = 0;
        for (int k = 0; k < MOST_MODULES && world.moduleNames.has(k); k++) {
            Crossed m = world.modules[k];
            n += m.reason == 0 && world.firstLike(m) == k ? 1 : 0;
        }
        return n;
    }

    public int firstAlike(int module)
            throws IllegalStateException, IndexOutOfBoundsException, IllegalArgumentException {
        return world.firstLike(lawfulModuleAt(module));
    }

    // ---- large groups

    public int largeTimes(int module, int x, int y)
            throws IllegalStateException, IndexOutOfBoundsException, IllegalArgumentException {
        Crossed m = lawfulModuleAt(module);
        demandFit(m.hasLarge(x) && m.hasLarge(y));
        return m.largeProduct(x, y);
    }

    public int target(int module, int x)
            throws IllegalStateException, IndexOutOfBoundsException, IllegalArgumentException {
        Crossed m = lawfulModuleAt(module);
        demandFit(m.hasLarge(x));
        return m.targetOf(m.upperPart(x), m.lowerPart(x));
    }

    public int largeOrder(int module, int x)
            throws IllegalStateException, IndexOutOfBoundsException, IllegalArgumentException {
        Crossed m = lawfulModuleAt(module);
        demandFit(m.hasLarge(x));
        return m.largePeriod(x);
    }

    public int between(int module, int g, int f)
            throws IllegalStateException, IndexOutOfBoundsException, IllegalArgumentException {
        Crossed m = moduleAt(module);
        demandThere(m.lower.has(g) && m.lower.has(f));
        demandFit(m.reason == 0);
        return m.countBetween(g, f);
    }

    // ---- arrows and ladders

    public int end(int arrow, boolean second) throws IllegalStateException, IndexOutOfBoundsException {
        Arrow w = arrowAt(arrow);
        return second ? w.to.number : w.from.number;
    }

    public int top(int arrow, int h) throws IllegalStateException, IndexOutOfBoundsException {
        Arrow w = arrowAt(arrow);
        demandThere(w.from.upper.has(h));
        return w.topOf(h);
    }

    public int bottom(int arrow, int g) throws IllegalStateException, IndexOutOfBoundsException {
        Arrow w = arrowAt(arrow);
        demandThere(w.from.lower.has(g));
        return w.bottomOf(g);
    }

    public int arrowWhy(int arrow) throws IllegalStateException, IndexOutOfBoundsException {
        return arrowAt(arrow).firstReason();
    }

    public boolean isEquivalence(int arrow) throws IllegalStateException, IndexOutOfBoundsException {
        return arrowAt(arrow).joinsAlikePairs();
    }

    public int equivalences() throws IllegalStateException {
        demandText();
        return world.equivalenceSet();
    }

    public int ladder(int module, int other) throws IllegalStateException, IndexOutOfBoundsException {
        Crossed first = moduleAt(module);
        Crossed second = moduleAt(other);
        return world.stepsBetween(first.number, second.number, world.equivalenceSet());
    }

    public int joined(int module) throws IllegalStateException, IndexOutOfBoundsException {
        Crossed m = moduleAt(module);
        return world.reachOf(m.number, world.equivalenceSet());
    }

    public int through(int arrow, int next, int h)
            throws IllegalStateException, IndexOutOfBoundsException, IllegalArgumentException {
        Arrow first = arrowAt(arrow);
        Arrow second = arrowAt(next);
        demandThere(first.from.upper.has(h));
        demandFit(first.to.number == second.from.number);
        return second.topOf(first.topOf(h));
    }

    // ---- accounts and texts

    public int account(int what) throws IllegalStateException, IllegalArgumentException {
        demandText();
        demandFit(what >= 0 && what < ACCOUNTS);
        return at(world.accounts, what);
    }

    public int writeModule(int module) throws IllegalStateException, IndexOutOfBoundsException {
        Crossed m = moduleAt(module);
        Names names = world.moduleNames;
        textLength = 0;
        for (int i = 0; i < names.lengthOf(module); i++) {
            write(names.letterOf(module, i));
        }
        for (int h = 0; h < m.upper.elements; h++) {
            write(h == 0 ? ':' : ',');
            write('0' + m.boundaryOf(h));
        }
        if (m.reason != 0) {
            write(';');
            write('0' + m.reason);
        }
        return textLength;
    }

    public int writeTable(int group) throws IllegalStateException, IndexOutOfBoundsException {
        Group g = groupAt(group);
        textLength = 0;
        for (int a = 0; a < g.elements; a++) {
            if (a > 0) {
                write('/');
            }
            for (int b = 0; b < g.elements; b++) {
                write('0' + g.product(a, b));
            }
        }
        return textLength;
    }

    public int textByte(int i) throws IndexOutOfBoundsException {
        demandThere(i >= 0 && i < textLength && i < text.length);
        return text[i];
    }

    // ---- changes (each can be undone, the latest one first)

    public int setBoundary(int module, int h, int g) throws IllegalStateException, IndexOutOfBoundsException {
        Crossed m = moduleAt(module);
        demandThere(m.upper.has(h) && m.lower.has(g));
        int previous = m.boundaryOf(h);
        beginChange();
        put(m.boundaries, h, g);
        world.judgeAgain(m);
        return previous;
    }

    public int setAct(int module, int g, int h, int to) throws IllegalStateException, IndexOutOfBoundsException {
        Crossed m = moduleAt(module);
        demandThere(m.lower.has(g) && m.upper.has(h) && m.upper.has(to));
        int previous = m.actionOf(g, h);
        beginChange();
        put(m.actions, g * WIDTH + h, to);
        world.judgeAgain(m);
        return previous;
    }

    public int rest(int module) throws IllegalStateException, IndexOutOfBoundsException {
        Crossed m = moduleAt(module);
        beginChange();
        int others = m.becomeRestful();
        world.judgeAgain(m);
        return others;
    }

    public int conjugate(int module)
            throws IllegalStateException, IndexOutOfBoundsException, IllegalArgumentException {
        Crossed m = moduleAt(module);
        demandFit(m.upper.number == m.lower.number);
        beginChange();
        int others = m.becomeConjugation();
        world.judgeAgain(m);
        return others;
    }

    public int setTop(int arrow, int h, int to) throws IllegalStateException, IndexOutOfBoundsException {
        Arrow w = arrowAt(arrow);
        demandThere(w.from.upper.has(h) && w.to.upper.has(to));
        int previous = w.topOf(h);
        beginChange();
        put(w.tops, h, to);
        return previous;
    }

    public int setBottom(int arrow, int g, int to) throws IllegalStateException, IndexOutOfBoundsException {
        Arrow w = arrowAt(arrow);
        demandThere(w.from.lower.has(g) && w.to.lower.has(to));
        int previous = w.bottomOf(g);
        beginChange();
        put(w.bottoms, g, to);
        return previous;
    }

    public int undo() throws IllegalStateException {
        if (undoCount <= 0) {
            throw new IllegalStateException("there is no change to undo");
        }
        undoCount--;
        world.takeState(undoStates[undoPlace(undoCount)]);
        return undoCount;
    }

    public int undoable() {
        return undoCount;
    }

    public int save(int slot) throws IllegalStateException, IndexOutOfBoundsException {
        demandText();
        demandThere(slot >= 0 && slot < SLOTS);
        world.giveState(slotStates[slot]);
        savedSlots |= 1 << slot;
        return Integer.bitCount(world.lawfulModules());
    }

    public int restore(int slot) throws IndexOutOfBoundsException, IllegalStateException {
        demandThere(slot >= 0 && slot < SLOTS);
        if (!isIn(savedSlots, slot)) {
            throw new IllegalStateException("nothing is saved in this slot");
        }
        world.takeState(slotStates[slot]);
        forgetChanges();
        return Integer.bitCount(world.lawfulModules());
    }

    // ---- what the calls above share

    private void demandText() {
        if (!loaded) {
            throw new IllegalStateException("no text was loaded");
        }
    }

    private static void demandThere(boolean there) {
        if (!there) {
            throw new IndexOutOfBoundsException("there is no such thing");
        }
    }

    private static void demandFit(boolean fit) {
        if (!fit) {
            throw new IllegalArgumentException("out of range, or not as it is asked for");
        }
    }

    private Group groupAt(int k) {
        demandText();
        demandThere(world.groupNames.has(k));
        return world.groups[k];
    }

    private Crossed moduleAt(int k) {
        demandText();
        demandThere(world.moduleNames.has(k));
        return world.modules[k];
    }

    private Crossed lawfulModuleAt(int k) {
        Crossed m = moduleAt(k);
        demandFit(m.reason == 0);
        return m;
    }

    private Arrow arrowAt(int k) {
        demandText();
        demandThere(world.arrowNames.has(k));
        return world.arrows[k];
    }

    private void appendWord(int bytes) {
        for (int shift = 24; shift >= 0 && filled < buffer.length; shift -= 8) {
            buffer[filled] = (byte) (bytes >> shift);
            filled++;
        }
    }

    private void write(int sign) {
        if (textLength < text.length) {
            text[textLength] = (byte) sign;
            textLength++;
        }
    }

    /** Keeps the state for undo, in place of the oldest one kept if there are as many as may be. */
    private void beginChange() {
        if (undoCount == MOST_UNDOS) {
            firstUndo = undoPlace(1);
            undoCount--;
        }
        world.giveState(undoStates[undoPlace(undoCount)]);
        undoCount++;
        world.addToAccount(CHANGES);
    }

    /** The kept states lie in a ring that begins at the oldest one. */
    private int undoPlace(int k) {
        return Math.floorMod(firstUndo + k, MOST_UNDOS);
    }

    private void forgetChanges() {
        firstUndo = 0;
        undoCount = 0;
    }

    /** The cell of a row; the test lets no number that came from elsewhere reach the row unseen. */
    private static int at(int[] row, int i) {
        return i >= 0 && i < row.length ? row[i] : 0;
    }

    private static void put(int[] row, int i, int value) {
        if (i >= 0 && i < row.length) {
            row[i] = value;
        }
    }

    private static boolean isIn(int set, int k) {
        return (set >> k & 1) != 0;
    }

    private static boolean isBetween(int value, int least, int most) {
        return value >= least && value <= most;
    }

    /** The names of one sort of lines, in the order of the lines, packed as Tokens packs a word. */
    private static final class Names {
        final long[] words;
        final int[] lengths;
        int total;

        Names(int most) {
            words = new long[most];
            lengths = new int[most];
        }

        boolean isFull() {
            return total >= words.length;
        }

        boolean has(int k) {
            return k >= 0 && k < total && k < words.length;
        }

        int lengthOf(int k) {
            return at(lengths, k);
        }

        int letterOf(int k, int i) {
            if (!has(k)) {
                return 0;
            }
            int behind = lengthOf(k) - 1 - i;
            return 'a' - 1 + (int) (words[k] >> BITS_OF_LETTER * behind & LETTER_MASK);
        }

        int numberOf(long word) {
            for (int k = 0; k < total && k < words.length; k++) {
                if (words[k] == word) {
                    return k;
                }
            }
            return NONE;
        }

        /** Writes the name behind the last one; it counts when its line is complete and total is raised. */
        void noteNext(long word, int length) {
            if (total < words.length) {
                words[total] = word;
                put(lengths, total, length);
            }
        }
    }

    private static final class Group {
        final int number;
        final int[] table = new int[WIDTH * WIDTH];
        final int[] opposites = new int[WIDTH];
        int elements = 1;

        Group(int number) {
            this.number = number;
        }

        boolean has(int a) {
            return a >= 0 && a < elements;
        }

        boolean hasAll(int set) {
            return (set & ~((1 << elements) - 1)) == 0;
        }

        int product(int a, int b) {
            int cell = a * WIDTH + b;
            return cell >= 0 && cell < table.length ? table[cell] : 0;
        }

        void setProduct(int a, int b, int c) {
            int cell = a * WIDTH + b;
            if (cell >= 0 && cell < table.length) {
                table[cell] = c;
            }
        }

        int opposite(int a) {
            return at(opposites, a);
        }

        /** c * a * i, i being the inverse of c. */
        int conjugateBy(int c, int a) {
            return product(product(c, a), opposite(c));
        }

        void becomeCyclic(int n) {
            elements = n;
            for (int a = 0; a < n; a++) {
                for (int b = 0; b < n; b++) {
                    setProduct(a, b, Math.floorMod(a + b, n));
                }
            }
        }

        void becomeDihedral(int n) {
            elements = 2 * n;
            for (int i = 0; i < n; i++) {
                for (int j = 0; j < n; j++) {
                    int sum = Math.floorMod(i + j, n);
                    int difference = Math.floorMod(i - j, n);
                    setProduct(i, j, sum);
                    setProduct(i, n + j, n + sum);
                    setProduct(n + i, j, n + difference);
                    setProduct(n + i, n + j, difference);
                }
            }
        }

        void becomeQuaternion() {
            elements = WIDTH;
            for (int a = 0; a < WIDTH; a++) {
                for (int b = 0; b < WIDTH; b++) {
                    setProduct(a, b, (a & 4) ^ (b & 4) ^ productOfUnits(a & 3, b & 3));
                }
            }
        }

        /** The product of two of 1, i, j, k, numbered from 0; 4 is added for the other sign. */
        static int productOfUnits(int x, int y) {
            if (x == 0 || y == 0) {
                return x + y;
            }
            if (x == y) {
                return 4;
            }
            int third = 6 - x - y;
            boolean inTurn = x == 1 && y == 2 || x == 2 && y == 3 || x == 3 && y == 1;
            return inTurn ? third : 4 + third;
        }

        void becomeProduct(Group left, Group right) {
            int n = right.elements;
            elements = left.elements * n;
            for (int a = 0; a < elements; a++) {
                for (int b = 0; b < elements; b++) {
                    int leftPart = left.product(Math.floorDiv(a, n), Math.floorDiv(b, n));
                    int rightPart = right.product(Math.floorMod(a, n), Math.floorMod(b, n));
                    setProduct(a, b, leftPart * n + rightPart);
                }
            }
        }

        void findOpposites() {
            for (int a = 0; a < elements; a++) {
                for (int b = 0; b < elements; b++) {
                    if (product(a, b) == 0) {
                        put(opposites, a, b);
                    }
                }
            }
        }

        int period(int a) {
            int n = 1;
            for (int x = a; x != 0 && n < WIDTH; n++) {
                x = product(x, a);
            }
            return n;
        }

        int middle() {
            int set = 0;
            for (int a = 0; a < elements; a++) {
                boolean central = true;
                for (int b = 0; b < elements && central; b++) {
                    central = product(a, b) == product(b, a);
                }
                set |= central ? 1 << a : 0;
            }
            return set;
        }

        int conjugatesOf(int a) {
            int set = 0;
            for (int c = 0; c < elements; c++) {
                set |= 1 << conjugateBy(c, a);
            }
            return set;
        }

        int countConjugateClasses() {
            int seen = 0;
            int n = 0;
            for (int a = 0; a < elements; a++) {
                if (!isIn(seen, a)) {
                    seen |= conjugatesOf(a);
                    n++;
                }
            }
            return n;
        }

        /** Each round but the last one adds an element, so that there are no more rounds than elements. */
        int closure(int set) {
            int grown = set | 1;
            int before = 0;
            for (int round = 0; round <= WIDTH && grown != before; round++) {
                before = grown;
                grown |= productsWithin(before);
            }
            return grown;
        }

        int productsWithin(int set) {
            int products = 0;
            for (int a = 0; a < elements; a++) {
                for (int b = 0; b < elements && isIn(set, a); b++) {
                    products |= isIn(set, b) ? 1 << product(a, b) : 0;
                }
            }
            return products;
        }

        int normalClosure(int set) {
            int grown = closure(set);
            int before = 0;
            for (int round = 0; round <= WIDTH && grown != before; round++) {
                before = grown;
                int wider = before;
                for (int a = 0; a < elements; a++) {
                    wider |= isIn(before, a) ? conjugatesOf(a) : 0;
                }
                grown = closure(wider);
            }
            return grown;
        }
    }

    /** The pair of a lawful module, as it was when sortClasses and countOrders were called. */
    private static final class Pair {
        /** The class of each lower element. */
        final int[] numbers = new int[WIDTH];
        /** The least element of each class. */
        final int[] leasts = new int[WIDTH];
        /** How many elements of the kernel, and how many classes, have the order that is the index. */
        final int[] kernelOrders = new int[WIDTH + 1];
        final int[] classOrders = new int[WIDTH + 1];
        int classCount;

        boolean has(int a) {
            return a >= 0 && a < classCount;
        }

        int classHolding(int g) {
            return at(numbers, g);
        }

        int leastOf(int a) {
            return at(leasts, a);
        }

        int product(Group lower, int a, int b) {
            return at(numbers, lower.product(at(leasts, a), at(leasts, b)));
        }

        int period(Group lower, int a) {
            int n = 1;
            for (int x = a; x != 0 && n < WIDTH; n++) {
                x = product(lower, x, a);
            }
            return n;
        }

        void sortClasses(Crossed m) {
            Arrays.fill(numbers, NONE);
            classCount = 0;
            for (int g = 0; g < m.lower.elements; g++) {
                if (classHolding(g) == NONE) {
                    put(leasts, classCount, g);
                    for (int h = 0; h < m.upper.elements; h++) {
                        put(numbers, m.lower.product(g, m.boundaryOf(h)), classCount);
                    }
                    classCount++;
                }
            }
        }

        void countOrders(Crossed m) {
            Arrays.fill(kernelOrders, 0);
            Arrays.fill(classOrders, 0);
            for (int h = 0; h < m.upper.elements; h++) {
                if (m.boundaryOf(h) == 0) {
                    addOne(kernelOrders, m.upper.period(h));
                }
            }
            for (int a = 0; a < classCount; a++) {
                addOne(classOrders, period(m.lower, a));
            }
        }

        static void addOne(int[] row, int i) {
            put(row, i, at(row, i) + 1);
        }

        boolean matches(Pair other) {
            boolean same = true;
            for (int order = 1; order <= WIDTH && same; order++) {
                same = at(kernelOrders, order) == at(other.kernelOrders, order)
                        && at(classOrders, order) == at(other.classOrders, order);
            }
            return same;
        }
    }

    /** A module. */
    private static final class Crossed {
        final int number;
        Group upper;
        Group lower;
        final int[] boundaries = new int[WIDTH];
        /** g on h at g * WIDTH + h. */
        final int[] actions = new int[WIDTH * WIDTH];
        final Pair pair = new Pair();
        /** The elements of which act lines told. */
        int told;
        int reason;

        /** Some group stands in until the module has its own, so that there is always one. */
        Crossed(int number, Group some) {
            this.number = number;
            upper = some;
            lower = some;
        }

        void start(Group itsUpper, Group itsLower) {
            upper = itsUpper;
            lower = itsLower;
            told = 0;
            for (int cell = 0; cell < actions.length; cell++) {
                actions[cell] = Math.floorMod(cell, WIDTH);
            }
        }

        int boundaryOf(int h) {
            return at(boundaries, h);
        }

        int actionOf(int g, int h) {
            return at(actions, g * WIDTH + h);
        }

        /** Sets g on h and tells 1 if it was another one. */
        int replaceAction(int g, int h, int to) {
            int before = actionOf(g, h);
            put(actions, g * WIDTH + h, to);
            return before == to ? 0 : 1;
        }

        int becomeRestful() {
            int others = 0;
            for (int g = 0; g < lower.elements; g++) {
                for (int h = 0; h < upper.elements; h++) {
                    others += replaceAction(g, h, h);
                }
            }
            return others;
        }

        int becomeConjugation() {
            int others = 0;
            for (int g = 0; g < lower.elements; g++) {
                for (int h = 0; h < upper.elements; h++) {
                    others += replaceAction(g, h, upper.conjugateBy(g, h));
                }
            }
            return others;
        }

        int firstReason() {
            if (!boundaryKeepsProducts()) {
                return 1;
            }
            for (int g = 0; g < lower.elements; g++) {
                if (!isAutomorphism(g)) {
                    return 2;
                }
            }
            if (!actionKeepsProducts()) {
                return 3;
            }
            if (!boundaryFollowsAction()) {
                return 4;
            }
            return boundaryActsAsConjugation() ? 0 : 5;
        }

        boolean boundaryKeepsProducts() {
            for (int h = 0; h < upper.elements; h++) {
                for (int k = 0; k < upper.elements; k++) {
                    if (boundaryOf(upper.product(h, k)) != lower.product(boundaryOf(h), boundaryOf(k))) {
                        return false;
                    }
                }
            }
            return true;
        }

        boolean isAutomorphism(int g) {
            int met = 0;
            for (int h = 0; h < upper.elements; h++) {
                if (isIn(met, actionOf(g, h))) {
                    return false;
                }
                met |= 1 << actionOf(g, h);
            }
            for (int h = 0; h < upper.elements; h++) {
                for (int k = 0; k < upper.elements; k++) {
                    if (actionOf(g, upper.product(h, k)) != upper.product(actionOf(g, h), actionOf(g, k))) {
                        return false;
                    }
                }
            }
            return true;
        }

        boolean actionKeepsProducts() {
            for (int h = 0; h < upper.elements; h++) {
                if (actionOf(0, h) != h) {
                    return false;
                }
            }
            for (int g = 0; g < lower.elements; g++) {
                for (int k = 0; k < lower.elements; k++) {
                    for (int h = 0; h < upper.elements; h++) {
                        if (actionOf(lower.product(g, k), h) != actionOf(g, actionOf(k, h))) {
                            return false;
                        }
                    }
                }
            }
            return true;
        }

        boolean boundaryFollowsAction() {
            for (int g = 0; g < lower.elements; g++) {
                for (int h = 0; h < upper.elements; h++) {
                    if (boundaryOf(actionOf(g, h)) != lower.conjugateBy(g, boundaryOf(h))) {
                        return false;
                    }
                }
            }
            return true;
        }

        boolean boundaryActsAsConjugation() {
            for (int h = 0; h < upper.elements; h++) {
                for (int k = 0; k < upper.elements; k++) {
                    if (actionOf(boundaryOf(h), k) != upper.conjugateBy(h, k)) {
                        return false;
                    }
                }
            }
            return true;
        }

        int kernelSet() {
            int set = 0;
            for (int h = 0; h < upper.elements; h++) {
                set |= boundaryOf(h) == 0 ? 1 << h : 0;
            }
            return set;
        }

        int imageSet() {
            int set = 0;
            for (int h = 0; h < upper.elements; h++) {
                set |= 1 << boundaryOf(h);
            }
            return set;
        }

        int stabilizer(int h) {
            int set = 0;
            for (int g = 0; g < lower.elements; g++) {
                set |= actionOf(g, h) == h ? 1 << g : 0;
            }
            return set;
        }

        int orbitSet(int h) {
            int set = 0;
            for (int g = 0; g < lower.elements; g++) {
                set |= 1 << actionOf(g, h);
            }
            return set;
        }

        Pair freshPair() {
            pair.sortClasses(this);
            pair.countOrders(this);
            return pair;
        }

        boolean hasLarge(int x) {
            return x >= 0 && x < upper.elements * lower.elements;
        }

        int upperPart(int x) {
            return lower.elements > 0 ? x / lower.elements : 0;
        }

        int lowerPart(int x) {
            return lower.elements > 0 ? x % lower.elements : 0;
        }

        int largeProduct(int x, int y) {
            int g = lowerPart(x);
            int h = upper.product(upperPart(x), actionOf(g, upperPart(y)));
            return h * lower.elements + lower.product(g, lowerPart(y));
        }

        int largePeriod(int x) {
            int n = 1;
            for (int y = x; y != 0 && n < WIDTH * WIDTH; n++) {
                y = largeProduct(y, x);
            }
            return n;
        }

        int targetOf(int h, int g) {
            return lower.product(boundaryOf(h), g);
        }

        int countBetween(int g, int f) {
            int n = 0;
            for (int h = 0; h < upper.elements; h++) {
                n += targetOf(h, g) == f ? 1 : 0;
            }
            return n;
        }
    }

    private static final class Arrow {
        Crossed from;
        Crossed to;
        final int[] tops = new int[WIDTH];
        final int[] bottoms = new int[WIDTH];

        /** Some module stands in until the arrow has its own, so that there is always one. */
        Arrow(Crossed some) {
            from = some;
            to = some;
        }

        int topOf(int h) {
            return at(tops, h);
        }

        int bottomOf(int g) {
            return at(bottoms, g);
        }

        int firstReason() {
            if (from.reason != 0 || to.reason != 0) {
                return 1;
            }
            if (!keepsProducts(tops, from.upper, to.upper)) {
                return 2;
            }
            if (!keepsProducts(bottoms, from.lower, to.lower)) {
                return 3;
            }
            if (!keepsBoundaries()) {
                return 4;
            }
            return keepsActions() ? 0 : 5;
        }

        static boolean keepsProducts(int[] row, Group first, Group second) {
            for (int a = 0; a < first.elements; a++) {
                for (int b = 0; b < first.elements; b++) {
                    if (at(row, first.product(a, b)) != second.product(at(row, a), at(row, b))) {
                        return false;
                    }
                }
            }
            return true;
        }

        boolean keepsBoundaries() {
            for (int h = 0; h < from.upper.elements; h++) {
                if (to.boundaryOf(topOf(h)) != bottomOf(from.boundaryOf(h))) {
                    return false;
                }
            }
            return true;
        }

        boolean keepsActions() {
            for (int g = 0; g < from.lower.elements; g++) {
                for (int h = 0; h < from.upper.elements; h++) {
                    if (topOf(from.actionOf(g, h)) != to.actionOf(bottomOf(g), topOf(h))) {
                        return false;
                    }
                }
            }
            return true;
        }

        /** Tells whether the arrow is an equivalence. */
        boolean joinsAlikePairs() {
            if (firstReason() != 0) {
                return false;
            }
            int first = from.kernelSet();
            int second = to.kernelSet();
            return Integer.bitCount(first) == Integer.bitCount(second) && partsKernel(first) && matchesClasses();
        }

        boolean partsKernel(int kernel) {
            int met = 0;
            for (int h = 0; h < from.upper.elements; h++) {
                if (isIn(kernel, h) && isIn(met, topOf(h))) {
                    return false;
                }
                met |= isIn(kernel, h) ? 1 << topOf(h) : 0;
            }
            return true;
        }

        boolean matchesClasses() {
            Pair first = from.pair;
            Pair second = to.pair;
            first.sortClasses(from);
            second.sortClasses(to);
            for (int a = 0; a < from.lower.elements; a++) {
                for (int b = 0; b < a; b++) {
                    boolean apart = first.classHolding(a) != first.classHolding(b);
                    if (apart && second.classHolding(bottomOf(a)) == second.classHolding(bottomOf(b))) {
                        return false;
                    }
                }
            }
            return first.classCount == second.classCount;
        }
    }

    /** All that a text tells, and the state. */
    private static final class World {
        final Names groupNames = new Names(MOST_GROUPS);
        final Names moduleNames = new Names(MOST_MODULES);
        final Names arrowNames = new Names(MOST_ARROWS);
        final Group[] groups = new Group[MOST_GROUPS];
        final Crossed[] modules = new Crossed[MOST_MODULES];
        final Arrow[] arrows = new Arrow[MOST_ARROWS];
        final int[] accounts = new int[ACCOUNTS];

        World() {
            for (int k = 0; k < MOST_GROUPS; k++) {
                groups[k] = new Group(k);
            }
            for (int k = 0; k < MOST_MODULES; k++) {
                modules[k] = new Crossed(k, groups[0]);
            }
            for (int k = 0; k < MOST_ARROWS; k++) {
                arrows[k] = new Arrow(modules[0]);
            }
        }

        void clear() {
            groupNames.total = 0;
            moduleNames.total = 0;
            arrowNames.total = 0;
            Arrays.fill(accounts, 0);
        }

        Names namesOf(int sort) {
            if (sort == 0) {
                return groupNames;
            }
            return sort == 1 ? moduleNames : arrowNames;
        }

        /** Reckons what the calls ask for over and over, once the whole text is read. */
        void settle() {
            for (int k = 0; k < groupNames.total && k < groups.length; k++) {
                groups[k].findOpposites();
            }
            for (int k = 0; k < moduleNames.total && k < modules.length; k++) {
                modules[k].reason = modules[k].firstReason();
            }
        }

        void addToAccount(int what) {
            put(accounts, what, at(accounts, what) + 1);
        }

        void judgeAgain(Crossed m) {
            int before = m.reason;
            m.reason = m.firstReason();
            if (before == 0 && m.reason != 0) {
                addToAccount(BROKEN_MODULES);
            }
            if (before != 0 && m.reason == 0) {
                addToAccount(MENDED_MODULES);
            }
        }

        int lawfulModules() {
            int set = 0;
            for (int k = 0; k < moduleNames.total && k < modules.length; k++) {
                set |= modules[k].reason == 0 ? 1 << k : 0;
            }
            return set;
        }

        int firstLike(Crossed m) {
            Pair pair = m.freshPair();
            for (int k = 0; k < m.number && k < modules.length; k++) {
                if (modules[k].reason == 0 && modules[k].freshPair().matches(pair)) {
                    return k;
                }
            }
            return m.number;
        }

        int equivalenceSet() {
            int set = 0;
            for (int k = 0; k < arrowNames.total && k < arrows.length; k++) {
                set |= arrows[k].joinsAlikePairs() ? 1 << k : 0;
            }
            return set;
        }

        /** The modules of a set and those that one of these arrows joins with them. */
        int oneStepFrom(int set, int joining) {
            int wider = set;
            for (int k = 0; k < arrowNames.total && k < arrows.length; k++) {
                int from = arrows[k].from.number;
                int to = arrows[k].to.number;
                if (isIn(joining, k) && (isIn(set, from) || isIn(set, to))) {
                    wider |= 1 << from | 1 << to;
                }
            }
            return wider;
        }

        int stepsBetween(int module, int other, int joining) {
            int reached = 1 << module;
            for (int steps = 0; steps < MOST_MODULES; steps++) {
                if (isIn(reached, other)) {
                    return steps;
                }
                reached = oneStepFrom(reached, joining);
            }
            return NONE;
        }

        int reachOf(int module, int joining) {
            int reached = 1 << module;
            for (int steps = 0; steps < MOST_MODULES; steps++) {
                reached = oneStepFrom(reached, joining);
            }
            return reached;
        }

        void giveState(int[] cells) {
            if (cells.length != STATE_CELLS) {
                return;
            }
            int cell = 0;
            for (int k = 0; k < MOST_MODULES; k++) {
                System.arraycopy(modules[k].boundaries, 0, cells, cell, WIDTH);
                System.arraycopy(modules[k].actions, 0, cells, cell + WIDTH, WIDTH * WIDTH);
                cells[cell + MODULE_CELLS - 1] = modules[k].reason;
                cell += MODULE_CELLS;
            }
            for (int k = 0; k < MOST_ARROWS; k++) {
                System.arraycopy(arrows[k].tops, 0, cells, cell, WIDTH);
                System.arraycopy(arrows[k].bottoms, 0, cells, cell + WIDTH, WIDTH);
                cell += ARROW_CELLS;
            }
            System.arraycopy(accounts, 0, cells, cell, ACCOUNTS);
        }

        void takeState(int[] cells) {
            if (cells.length != STATE_CELLS) {
                return;
            }
            int cell = 0;
            for (int k = 0; k < MOST_MODULES; k++) {
                System.arraycopy(cells, cell, modules[k].boundaries, 0, WIDTH);
                System.arraycopy(cells, cell + WIDTH, modules[k].actions, 0, WIDTH * WIDTH);
                modules[k].reason = cells[cell + MODULE_CELLS - 1];
                cell += MODULE_CELLS;
            }
            for (int k = 0; k < MOST_ARROWS; k++) {
                System.arraycopy(cells, cell, arrows[k].tops, 0, WIDTH);
                System.arraycopy(cells, cell + WIDTH, arrows[k].bottoms, 0, WIDTH);
                cell += ARROW_CELLS;
            }
            System.arraycopy(cells, cell, accounts, 0, ACCOUNTS);
        }
    }

    /** The tokens of a text, one at a time. */
    private static final class Tokens {
        static final int END = 0;
        static final int WORD = 1;
        static final int NUMBER = 2;
        static final int SEMICOLON = 3;
        static final int BAD = 4;

        final byte[] bytes;
        final int length;
        int start;
        int stop;
        int kind;
        /** The letters of a word, five bits each, the first one highest. */
        long word;
        /** The value of a number. */
        int value;

        Tokens(byte[] bytes, int length) {
            this.bytes = bytes;
            this.length = length;
        }

        int byteAt(int i) {
            return i >= 0 && i < length && i < bytes.length ? bytes[i] : 0;
        }

        void advance() {
            start = endOfRun(stop, ' ', ' ');
            int first = byteAt(start);
            if (start >= length) {
                stop = start;
                kind = END;
            } else if (isBetween(first, 'a', 'z')) {
                stop = endOfRun(start, 'a', 'z');
                kind = stop - start <= MOST_LETTERS ? WORD : BAD;
                word = kind == WORD ? packed() : 0;
            } else if (isBetween(first, '0', '9')) {
                stop = endOfRun(start, '0', '9');
                kind = stop - start <= MOST_DIGITS ? NUMBER : BAD;
                value = kind == NUMBER ? reckoned() : 0;
            } else {
                stop = start + 1;
                kind = first == ';' ? SEMICOLON : BAD;
            }
        }

        int endOfRun(int from, int least, int most) {
            int i = from;
            while (i >= 0 && i < length && i < bytes.length && bytes[i] >= least && bytes[i] <= most) {
                i++;
            }
            return i;
        }

        long packed() {
            long letters = 0;
            for (int i = start; i >= 0 && i < stop && i < bytes.length; i++) {
                letters = letters << BITS_OF_LETTER | bytes[i] - 'a' + 1;
            }
            return letters;
        }

        boolean spells(String word) {
            boolean same = kind == WORD && stop - start == word.length();
            for (int i = 0; same && i < word.length(); i++) {
                same = byteAt(start + i) == word.charAt(i);
            }
            return same;
        }

        int reckoned() {
            int sum = 0;
            for (int i = start; i >= 0 && i < stop && i < bytes.length; i++) {
                sum = sum * 10 + bytes[i] - '0';
            }
            return sum;
        }
    }

    /** Reads a text into a world; each read method tells whether it found no error, and ends behind its part. */
    private static final class Parser {
        static final int NOT_ALLOWED = 1;
        static final int OUT_OF_BOUNDS = 2;
        static final int WRONG_NAME = 3;
        static final int TOO_MANY = 4;

        final Tokens tokens;
        final World world;
        int error;
        int errorAt = NONE;

        Parser(Tokens tokens, World world) {
            this.tokens = tokens;
            this.world = world;
        }

        boolean refuse(int code) {
            error = code;
            errorAt = tokens.start;
            return false;
        }

        boolean readText() {
            tokens.advance();
            if (!tokens.spells("crossed")) {
                return refuse(NOT_ALLOWED);
            }
            tokens.advance();
            for (int lines = 0; lines < MOST_BYTES && tokens.kind == Tokens.SEMICOLON; lines++) {
                tokens.advance();
                if (!readLine()) {
                    return false;
                }
            }
            return tokens.kind == Tokens.END || refuse(NOT_ALLOWED);
        }

        boolean readLine() {
            if (tokens.spells("group")) {
                return readGroup();
            }
            if (tokens.spells("module")) {
                return readModule();
            }
            if (tokens.spells("act")) {
                return readAct();
            }
            return tokens.spells("arrow") ? readArrow() : refuse(NOT_ALLOWED);
        }

        boolean readGroup() {
            Names names = world.groupNames;
            if (!readNewName(names)) {
                return false;
            }
            Group group = world.groups[names.total];
            boolean read;
            if (tokens.spells("cyclic")) {
                read = readCyclic(group);
            } else if (tokens.spells("dihedral")) {
                read = readDihedral(group);
            } else if (tokens.spells("quaternion")) {
                read = readQuaternion(group);
            } else {
                read = tokens.spells("product") ? readProduct(group) : refuse(NOT_ALLOWED);
            }
            // The name counts only behind the kind: a product has no parts but earlier groups.
            names.total += read ? 1 : 0;
            return read;
        }

        boolean readCyclic(Group group) {
            tokens.advance();
            if (!isNumber(1, WIDTH)) {
                return false;
            }
            group.becomeCyclic(tokens.value);
            tokens.advance();
            return true;
        }

        boolean readDihedral(Group group) {
            tokens.advance();
            if (!isNumber(3, 4)) {
                return false;
            }
            group.becomeDihedral(tokens.value);
            tokens.advance();
            return true;
        }

        boolean readQuaternion(Group group) {
            tokens.advance();
            group.becomeQuaternion();
            return true;
        }

        boolean readProduct(Group group) {
            tokens.advance();
            if (!isKnown(world.groupNames)) {
                return false;
            }
            Group left = groupTold();
            tokens.advance();
            if (!isKnown(world.groupNames)) {
                return false;
            }
            Group right = groupTold();
            if (left.elements * right.elements > WIDTH) {
                return refuse(TOO_MANY);
            }
            tokens.advance();
            group.becomeProduct(left, right);
            return true;
        }

        boolean readModule() {
            Names names = world.moduleNames;
            if (!readNewName(names) || !isKnown(world.groupNames)) {
                return false;
            }
            Group upper = groupTold();
            tokens.advance();
            if (!isKnown(world.groupNames)) {
                return false;
            }
            Group lower = groupTold();
            tokens.advance();
            Crossed module = world.modules[names.total];
            module.start(upper, lower);
            if (!readElements(module.boundaries, 0, upper, lower)) {
                return false;
            }
            names.total++;
            return true;
        }

        boolean readAct() {
            tokens.advance();
            if (!isKnown(world.moduleNames)) {
                return false;
            }
            Crossed module = moduleTold();
            tokens.advance();
            if (!isNumber(0, module.lower.elements - 1)) {
                return false;
            }
            int g = tokens.value;
            if (isIn(module.told, g)) {
                return refuse(WRONG_NAME);
            }
            module.told |= 1 << g;
            tokens.advance();
            return readElements(module.actions, g * WIDTH, module.upper, module.upper);
        }

        boolean readArrow() {
            Names names = world.arrowNames;
            if (!readNewName(names) || !isKnown(world.moduleNames)) {
                return false;
            }
            Crossed from = moduleTold();
            tokens.advance();
            if (!isKnown(world.moduleNames)) {
                return false;
            }
            Crossed to = moduleTold();
            tokens.advance();
            Arrow arrow = world.arrows[names.total];
            arrow.from = from;
            arrow.to = to;
            if (!readElements(arrow.tops, 0, from.upper, to.upper)
                    || !readElements(arrow.bottoms, 0, from.lower, to.lower)) {
                return false;
            }
            names.total++;
            return true;
        }

        /** Reads the first word of a line, for which there must be room, and the name behind it. */
        boolean readNewName(Names names) {
            if (names.isFull()) {
                return refuse(TOO_MANY);
            }
            tokens.advance();
            if (tokens.kind != Tokens.WORD) {
                return refuse(NOT_ALLOWED);
            }
            if (names.numberOf(tokens.word) != NONE) {
                return refuse(WRONG_NAME);
            }
            names.noteNext(tokens.word, tokens.stop - tokens.start);
            tokens.advance();
            return true;
        }

        /** Reads an element of one group for each element of another one. */
        boolean readElements(int[] row, int from, Group each, Group group) {
            for (int i = 0; i < each.elements; i++) {
                if (!isNumber(0, group.elements - 1)) {
                    return false;
                }
                put(row, from + i, tokens.value);
                tokens.advance();
            }
            return true;
        }

        boolean isNumber(int least, int most) {
            if (tokens.kind != Tokens.NUMBER) {
                return refuse(NOT_ALLOWED);
            }
            return isBetween(tokens.value, least, most) || refuse(OUT_OF_BOUNDS);
        }

        boolean isKnown(Names names) {
            if (tokens.kind != Tokens.WORD) {
                return refuse(NOT_ALLOWED);
            }
            return names.numberOf(tokens.word) != NONE || refuse(WRONG_NAME);
        }

        Group groupTold() {
            int k = world.groupNames.numberOf(tokens.word);
            return world.groups[k >= 0 ? k : 0];
        }

        Crossed moduleTold() {
            int k = world.moduleNames.numberOf(tokens.word);
            return world.modules[k >= 0 ? k : 0];
        }
    }
}
