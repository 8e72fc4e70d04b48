import java.util.ArrayDeque;
import java.util.ArrayList;
import java.util.Arrays;
import java.util.Deque;
import java.util.HashMap;
import java.util.List;
import java.util.Map;
import java.util.TreeMap;
import java.util.TreeSet;
import java.util.regex.Matcher;
import java.util.regex.Pattern;

/** A second reading of the document, slow and plain, that shares no code with the class. */
final class Oracle {
    static final String STATE = "IllegalStateException";
    static final String INDEX = "IndexOutOfBoundsException";
    static final String ARGUMENT = "IllegalArgumentException";

    /** An exception that a call is due to throw. */
    static final class Due extends RuntimeException {
        final String kind;

        Due(String kind) {
            this.kind = kind;
        }
    }

    /** An error in a text. */
    static final class Bad extends RuntimeException {
        final int code;
        final int position;

        Bad(int code, int position) {
            this.code = code;
            this.position = position;
        }
    }

    record Token(String text, int position) {
        boolean isWord() {
            return text.matches("[a-z]{1,10}");
        }

        boolean isNumber() {
            return text.matches("[0-9]{1,2}");
        }
    }

    record G(int number, int[][] table) {
        int size() {
            return table.length;
        }

        int inverse(int a) {
            for (int b = 0; b < size(); b++) {
                if (table[a][b] == 0) {
                    return b;
                }
            }
            throw new AssertionError("no inverse");
        }

        int conjugated(int c, int a) {
            return table[table[c][a]][inverse(c)];
        }
    }

    static final class M {
        int number;
        G upper;
        G lower;
        int[] boundary;
        int[][] act;

        M copy() {
            M m = new M();
            m.number = number;
            m.upper = upper;
            m.lower = lower;
            m.boundary = boundary.clone();
            m.act = new int[act.length][];
            for (int g = 0; g < act.length; g++) {
                m.act[g] = act[g].clone();
            }
            return m;
        }
    }

    static final class A {
        int from;
        int to;
        int[] top;
        int[] bottom;

        A copy() {
            A a = new A();
            a.from = from;
            a.to = to;
            a.top = top.clone();
            a.bottom = bottom.clone();
            return a;
        }
    }

    static final class World {
        List<M> modules = new ArrayList<>();
        List<A> arrows = new ArrayList<>();
        int[] accounts = new int[3];

        World copy() {
            World w = new World();
            modules.forEach(m -> w.modules.add(m.copy()));
            arrows.forEach(a -> w.arrows.add(a.copy()));
            w.accounts = accounts.clone();
            return w;
        }
    }

    private StringBuilder buffer = new StringBuilder();
    private int code = 0;
    private int position = -1;
    private boolean loaded = false;
    private List<List<String>> names = List.of();
    private List<G> groups = List.of();
    private World world = new World();
    private final Deque<World> history = new ArrayDeque<>();
    private final World[] saved = new World[2];
    private String text = "";

    // ---- groups

    static int[][] cyclic(int n) {
        int[][] t = new int[n][n];
        for (int a = 0; a < n; a++) {
            for (int b = 0; b < n; b++) {
                t[a][b] = (a + b) % n;
            }
        }
        return t;
    }

    /** i is the map from x to x + i, n + i the one from x to i - x, and a product is one map behind the other. */
    static int[][] dihedral(int n) {
        int[][] maps = new int[2 * n][n];
        for (int i = 0; i < n; i++) {
            for (int x = 0; x < n; x++) {
                maps[i][x] = (x + i) % n;
                maps[n + i][x] = (n + i - x) % n;
            }
        }
        int[][] t = new int[2 * n][2 * n];
        for (int a = 0; a < 2 * n; a++) {
            for (int b = 0; b < 2 * n; b++) {
                int[] both = new int[n];
                for (int x = 0; x < n; x++) {
                    both[x] = maps[a][maps[b][x]];
                }
                for (int c = 0; c < 2 * n; c++) {
                    if (Arrays.equals(maps[c], both)) {
                        t[a][b] = c;
                    }
                }
            }
        }
        return t;
    }

    static int[][] quaternion() {
        int[][] v = new int[8][4];
        for (int i = 0; i < 4; i++) {
            v[i][i] = 1;
            v[4 + i][i] = -1;
        }
        int[][] t = new int[8][8];
        for (int a = 0; a < 8; a++) {
            for (int b = 0; b < 8; b++) {
                int[] p = v[a];
                int[] q = v[b];
                int[] r = {p[0] * q[0] - p[1] * q[1] - p[2] * q[2] - p[3] * q[3],
                    p[0] * q[1] + p[1] * q[0] + p[2] * q[3] - p[3] * q[2],
                    p[0] * q[2] - p[1] * q[3] + p[2] * q[0] + p[3] * q[1],
                    p[0] * q[3] + p[1] * q[2] - p[2] * q[1] + p[3] * q[0]};
                for (int c = 0; c < 8; c++) {
                    if (Arrays.equals(v[c], r)) {
                        t[a][b] = c;
                    }
                }
            }
        }
        return t;
    }

    static int[][] product(int[][] s, int[][] t) {
        int n = t.length;
        int[][] p = new int[s.length * n][s.length * n];
        for (int a = 0; a < s.length; a++) {
            for (int b = 0; b < n; b++) {
                for (int c = 0; c < s.length; c++) {
                    for (int d = 0; d < n; d++) {
                        p[a * n + b][c * n + d] = s[a][c] * n + t[b][d];
                    }
                }
            }
        }
        return p;
    }

    // ---- the text

    private final class Reading {
        final List<Token> tokens = new ArrayList<>();
        final List<List<String>> named = List.of(new ArrayList<>(), new ArrayList<>(), new ArrayList<>());
        final List<G> read = new ArrayList<>();
        final World made = new World();
        final TreeSet<String> told = new TreeSet<>();
        int next = 0;

        Reading(String all) {
            Matcher m = Pattern.compile("[a-z]+|[0-9]+|[^ ]", Pattern.DOTALL).matcher(all);
            while (m.find()) {
                tokens.add(new Token(m.group(), m.start()));
            }
            tokens.add(new Token("", all.length()));
        }

        Token take() {
            Token t = tokens.get(next);
            next++;
            return t;
        }

        void demand(boolean fine, int badCode, Token t) {
            if (!fine) {
                throw new Bad(badCode, t.position);
            }
        }

        Token word() {
            Token t = take();
            demand(t.isWord(), 1, t);
            return t;
        }

        int number(int least, int most) {
            Token t = take();
            demand(t.isNumber(), 1, t);
            int value = Integer.parseInt(t.text);
            demand(value >= least && value <= most, 2, t);
            return value;
        }

        int known(int sort) {
            Token t = word();
            demand(named.get(sort).contains(t.text), 3, t);
            return named.get(sort).indexOf(t.text);
        }

        String fresh(int sort) {
            Token t = word();
            demand(!named.get(sort).contains(t.text), 3, t);
            return t.text;
        }

        int[] elements(int n, int size) {
            int[] row = new int[n];
            for (int i = 0; i < n; i++) {
                row[i] = number(0, size - 1);
            }
            return row;
        }

        void all() {
            Token first = take();
            demand(first.text.equals("crossed"), 1, first);
            while (true) {
                Token t = take();
                if (t.text.isEmpty()) {
                    return;
                }
                demand(t.text.equals(";"), 1, t);
                line();
            }
        }

        void line() {
            Token t = take();
            int sort = List.of("group", "module", "arrow").indexOf(t.text);
            demand(sort >= 0 || t.text.equals("act"), 1, t);
            if (sort < 0) {
                actLine();
                return;
            }
            demand(named.get(sort).size() < new int[] {6, 6, 8}[sort], 4, t);
            String name = fresh(sort);
            if (sort == 0) {
                groupLine();
            } else if (sort == 1) {
                moduleLine();
            } else {
                arrowLine();
            }
            named.get(sort).add(name);
        }

        void groupLine() {
            Token kind = take();
            int[][] table;
            if (kind.text.equals("cyclic")) {
                table = cyclic(number(1, 8));
            } else if (kind.text.equals("dihedral")) {
                table = dihedral(number(3, 4));
            } else if (kind.text.equals("quaternion")) {
                table = quaternion();
            } else {
                demand(kind.text.equals("product"), 1, kind);
                int[][] s = read.get(known(0)).table;
                Token second = tokens.get(next);
                int[][] t = read.get(known(0)).table;
                demand(s.length * t.length <= 8, 4, second);
                table = product(s, t);
            }
            read.add(new G(read.size(), table));
        }

        void moduleLine() {
            M m = new M();
            m.number = made.modules.size();
            m.upper = read.get(known(0));
            m.lower = read.get(known(0));
            m.boundary = elements(m.upper.size(), m.lower.size());
            m.act = new int[m.lower.size()][m.upper.size()];
            for (int[] row : m.act) {
                Arrays.setAll(row, h -> h);
            }
            made.modules.add(m);
        }

        void actLine() {
            M m = made.modules.get(known(1));
            Token t = tokens.get(next);
            int g = number(0, m.lower.size() - 1);
            demand(told.add(m.number + " " + g), 3, t);
            m.act[g] = elements(m.upper.size(), m.upper.size());
        }

        void arrowLine() {
            A a = new A();
            a.from = known(1);
            a.to = known(1);
            M m = made.modules.get(a.from);
            M n = made.modules.get(a.to);
            a.top = elements(m.upper.size(), n.upper.size());
            a.bottom = elements(m.lower.size(), n.lower.size());
            made.arrows.add(a);
        }
    }

    // ---- laws and pairs

    static int why(M m) {
        G u = m.upper;
        G l = m.lower;
        for (int law = 1; law <= 5; law++) {
            for (int g = 0; g < l.size(); g++) {
                for (int h = 0; h < u.size(); h++) {
                    for (int k = 0; k < u.size(); k++) {
                        if (breaks(m, law, g, h, k)) {
                            return law;
                        }
                    }
                    for (int k = 0; law == 3 && k < l.size(); k++) {
                        if (m.act[l.table[g][k]][h] != m.act[g][m.act[k][h]]) {
                            return 3;
                        }
                    }
                }
            }
        }
        return 0;
    }

    private static boolean breaks(M m, int law, int g, int h, int k) {
        int[] b = m.boundary;
        G u = m.upper;
        G l = m.lower;
        switch (law) {
            case 1:
                return b[u.table[h][k]] != l.table[b[h]][b[k]];
            case 2:
                return h != k && m.act[g][h] == m.act[g][k]
                        || m.act[g][u.table[h][k]] != u.table[m.act[g][h]][m.act[g][k]];
            case 3:
                return m.act[0][h] != h;
            case 4:
                return b[m.act[g][h]] != l.conjugated(g, b[h]);
            default:
                return m.act[b[h]][k] != u.conjugated(h, k);
        }
    }

    /** The classes as sets of lower elements, in the order of their least elements. */
    static List<TreeSet<Integer>> classes(M m) {
        List<TreeSet<Integer>> all = new ArrayList<>();
        for (int g = 0; g < m.lower.size(); g++) {
            TreeSet<Integer> one = new TreeSet<>();
            for (int c : m.boundary) {
                one.add(m.lower.table[g][c]);
            }
            if (!all.contains(one)) {
                all.add(one);
            }
        }
        return all;
    }

    static int classOf(M m, int g) {
        List<TreeSet<Integer>> all = classes(m);
        for (int k = 0; k < all.size(); k++) {
            if (all.get(k).contains(g)) {
                return k;
            }
        }
        throw new AssertionError("no class");
    }

    static int classTimes(M m, int a, int b) {
        return classOf(m, m.lower.table[classes(m).get(a).first()][classes(m).get(b).first()]);
    }

    static int order(int[][] table, int a) {
        int n = 1;
        for (int x = a; x != 0; x = table[x][a]) {
            n++;
        }
        return n;
    }

    static Map<String, Integer> pair(M m) {
        Map<String, Integer> numbers = new TreeMap<>();
        for (int h = 0; h < m.upper.size(); h++) {
            if (m.boundary[h] == 0) {
                numbers.merge("kernel " + order(m.upper.table, h), 1, Integer::sum);
            }
        }
        int n = classes(m).size();
        int[][] table = new int[n][n];
        for (int a = 0; a < n; a++) {
            for (int b = 0; b < n; b++) {
                table[a][b] = classTimes(m, a, b);
            }
        }
        for (int a = 0; a < n; a++) {
            numbers.merge("classes " + order(table, a), 1, Integer::sum);
        }
        return numbers;
    }

    static int[][] large(M m) {
        int n = m.lower.size();
        int[][] t = new int[n * m.upper.size()][n * m.upper.size()];
        for (int h = 0; h < m.upper.size(); h++) {
            for (int g = 0; g < n; g++) {
                for (int k = 0; k < m.upper.size(); k++) {
                    for (int f = 0; f < n; f++) {
                        t[h * n + g][k * n + f] = m.upper.table[h][m.act[g][k]] * n + m.lower.table[g][f];
                    }
                }
            }
        }
        return t;
    }

    int arrowWhy(A a) {
        M m = world.modules.get(a.from);
        M n = world.modules.get(a.to);
        if (why(m) > 0 || why(n) > 0) {
            return 1;
        }
        TreeSet<Integer> reasons = new TreeSet<>();
        reasons.add(9);
        for (int h = 0; h < m.upper.size(); h++) {
            for (int k = 0; k < m.upper.size(); k++) {
                reasons.add(a.top[m.upper.table[h][k]] != n.upper.table[a.top[h]][a.top[k]] ? 2 : 9);
            }
            reasons.add(n.boundary[a.top[h]] != a.bottom[m.boundary[h]] ? 4 : 9);
        }
        for (int g = 0; g < m.lower.size(); g++) {
            for (int k = 0; k < m.lower.size(); k++) {
                reasons.add(a.bottom[m.lower.table[g][k]] != n.lower.table[a.bottom[g]][a.bottom[k]] ? 3 : 9);
            }
            for (int h = 0; h < m.upper.size(); h++) {
                reasons.add(a.top[m.act[g][h]] != n.act[a.bottom[g]][a.top[h]] ? 5 : 9);
            }
        }
        return reasons.first() % 9;
    }

    boolean isEquivalence(A a) {
        if (arrowWhy(a) != 0) {
            return false;
        }
        M m = world.modules.get(a.from);
        M n = world.modules.get(a.to);
        TreeSet<Integer> tops = new TreeSet<>();
        for (int h = 0; h < m.upper.size(); h++) {
            if (m.boundary[h] == 0) {
                tops.add(a.top[h]);
            }
        }
        TreeSet<String> joins = new TreeSet<>();
        TreeSet<Integer> bottoms = new TreeSet<>();
        for (int g = 0; g < m.lower.size(); g++) {
            bottoms.add(classOf(n, a.bottom[g]));
            joins.add(classOf(m, g) + " " + classOf(n, a.bottom[g]));
        }
        int kernel = Integer.bitCount(zeros(m.boundary));
        return tops.size() == kernel && kernel == Integer.bitCount(zeros(n.boundary))
                && bottoms.size() == joins.size() && classes(m).size() == classes(n).size();
    }

    static int zeros(int[] row) {
        int set = 0;
        for (int i = 0; i < row.length; i++) {
            set |= row[i] == 0 ? 1 << i : 0;
        }
        return set;
    }

    int[][] distances() {
        int n = world.modules.size();
        int[][] d = new int[n][n];
        for (int[] row : d) {
            Arrays.fill(row, 1000);
        }
        for (A a : world.arrows) {
            if (isEquivalence(a)) {
                d[a.from][a.to] = 1;
                d[a.to][a.from] = 1;
            }
        }
        for (int i = 0; i < n; i++) {
            d[i][i] = 0;
        }
        for (int k = 0; k < n; k++) {
            for (int i = 0; i < n; i++) {
                for (int j = 0; j < n; j++) {
                    d[i][j] = Math.min(d[i][j], d[i][k] + d[k][j]);
                }
            }
        }
        return d;
    }

    /** What all closed sets that hold a set have in common. */
    static int closed(G g, int set, boolean conjugatesToo) {
        int common = (1 << g.size()) - 1;
        for (int s = 1; s < 1 << g.size(); s += 2) {
            boolean fits = (set & ~s) == 0;
            for (int a = 0; a < g.size() && fits; a++) {
                for (int b = 0; b < g.size() && fits && (s >> a & 1) == 1; b++) {
                    fits = ((s >> b & 1) == 0 || (s >> g.table[a][b] & 1) == 1)
                            && (!conjugatesToo || (s >> g.conjugated(b, a) & 1) == 1);
                }
            }
            common &= fits ? s : -1;
        }
        return common;
    }

    // ---- calls

    private static void there(boolean is) {
        if (!is) {
            throw new Due(INDEX);
        }
    }

    private static void fit(boolean is) {
        if (!is) {
            throw new Due(ARGUMENT);
        }
    }

    private static boolean in(int k, int n) {
        return k >= 0 && k < n;
    }

    private G group(int k) {
        there(in(k, groups.size()));
        return groups.get(k);
    }

    private M module(int k) {
        there(in(k, world.modules.size()));
        return world.modules.get(k);
    }

    private M lawfulModule(int k) {
        M m = module(k);
        fit(why(m) == 0);
        return m;
    }

    private A arrow(int k) {
        there(in(k, world.arrows.size()));
        return world.arrows.get(k);
    }

    int lawfulSet() {
        int set = 0;
        for (M m : world.modules) {
            set |= why(m) == 0 ? 1 << m.number : 0;
        }
        return set;
    }

    private M change(int module) {
        history.addLast(world.copy());
        if (history.size() > 8) {
            history.removeFirst();
        }
        world.accounts[0]++;
        return module < 0 ? null : world.modules.get(module);
    }

    private void account(int lawfulBefore) {
        int now = lawfulSet();
        world.accounts[1] += Integer.bitCount(lawfulBefore & ~now);
        world.accounts[2] += Integer.bitCount(now & ~lawfulBefore);
    }

    String call(String name, int... a) {
        try {
            return Integer.toString(answer(name, a));
        } catch (Due e) {
            return e.kind;
        }
    }

    private int answer(String name, int[] a) {
        switch (name) {
            case "append":
                if (buffer.length() + 20 > 900) {
                    return -1;
                }
                for (int word : a) {
                    for (int i = 3; i >= 0; i--) {
                        buffer.append((char) (word >>> 8 * i & 255));
                    }
                }
                return buffer.length();
            case "load":
                return load(a[0]);
            case "parseError":
                return code;
            case "errorPosition":
                return position;
            case "buffered":
                return buffer.length();
            case "undoable":
                return history.size();
            case "undo":
                if (history.isEmpty()) {
                    throw new Due(STATE);
                }
                world = history.removeLast();
                return history.size();
            case "restore":
                there(in(a[0], 2));
                if (saved[a[0]] == null) {
                    throw new Due(STATE);
                }
                world = saved[a[0]].copy();
                history.clear();
                return Integer.bitCount(lawfulSet());
            case "textByte":
                there(in(a[0], text.length()));
                return text.charAt(a[0]);
            default:
                if (!loaded) {
                    throw new Due(STATE);
                }
                return ofText(name, a);
        }
    }

    private int load(int n) {
        there(in(n, buffer.length() + 1));
        Reading reading = new Reading(buffer.substring(0, n));
        buffer.setLength(0);
        try {
            reading.all();
        } catch (Bad e) {
            code = e.code;
            position = e.position;
            throw new Due(ARGUMENT);
        }
        code = 0;
        position = -1;
        loaded = true;
        names = reading.named;
        groups = reading.read;
        world = reading.made;
        history.clear();
        Arrays.fill(saved, null);
        return world.modules.size();
    }

    private int ofText(String name, int[] a) {
        switch (name) {
            case "count":
                fit(in(a[0], 3));
                return names.get(a[0]).size();
            case "letter":
                fit(in(a[0], 3));
                there(in(a[1], names.get(a[0]).size()) && in(a[2], names.get(a[0]).get(a[1]).length()));
                return names.get(a[0]).get(a[1]).charAt(a[2]);
            case "size":
                return group(a[0]).size();
            case "times":
                there(in(a[1], group(a[0]).size()) && in(a[2], group(a[0]).size()));
                return group(a[0]).table[a[1]][a[2]];
            case "inverse":
                there(in(a[1], group(a[0]).size()));
                return group(a[0]).inverse(a[1]);
            case "orderOf":
                there(in(a[1], group(a[0]).size()));
                return order(group(a[0]).table, a[1]);
            case "centre":
                return centre(group(a[0]));
            case "conjugacy":
                return conjugacy(group(a[0]));
            case "generated":
            case "normal":
                fit((a[1] & -1 << group(a[0]).size()) == 0);
                return closed(group(a[0]), a[1], name.equals("normal"));
            case "account":
                fit(in(a[0], 3));
                return world.accounts[a[0]];
            case "writeTable":
                return write(tableText(group(a[0])));
            case "lawful":
                return lawfulSet();
            case "save":
                there(in(a[0], 2));
                saved[a[0]] = world.copy();
                return Integer.bitCount(lawfulSet());
            default:
                return ofModule(name, a);
        }
    }

    private static int centre(G g) {
        int set = (1 << g.size()) - 1;
        for (int c = 0; c < g.size(); c++) {
            for (int b = 0; b < g.size(); b++) {
                set &= g.table[c][b] == g.table[b][c] ? -1 : ~(1 << c);
            }
        }
        return set;
    }

    private static int conjugacy(G g) {
        TreeSet<Integer> sets = new TreeSet<>();
        for (int b = 0; b < g.size(); b++) {
            int set = 0;
            for (int c = 0; c < g.size(); c++) {
                set |= 1 << g.conjugated(c, b);
            }
            sets.add(set);
        }
        return sets.size();
    }

    private static String tableText(G g) {
        List<String> rows = new ArrayList<>();
        for (int[] row : g.table) {
            rows.add(Arrays.toString(row).replaceAll("[^0-9]", ""));
        }
        return String.join("/", rows);
    }

    private int write(String now) {
        text = now;
        return now.length();
    }

    private int ofModule(String name, int[] a) {
        switch (name) {
            case "groupOf":
                return a[1] == 1 ? module(a[0]).lower.number : module(a[0]).upper.number;
            case "boundary":
                there(in(a[1], module(a[0]).upper.size()));
                return module(a[0]).boundary[a[1]];
            case "act":
                there(in(a[1], module(a[0]).lower.size()) && in(a[2], module(a[0]).upper.size()));
                return module(a[0]).act[a[1]][a[2]];
            case "why":
                return why(module(a[0]));
            case "kernel":
                return zeros(module(a[0]).boundary);
            case "image":
                return Arrays.stream(module(a[0]).boundary).map(g -> 1 << g).reduce(0, (s, t) -> s | t);
            case "isCentral":
                return (zeros(module(a[0]).boundary) & ~centre(module(a[0]).upper)) == 0 ? 1 : 0;
            case "fixed":
                there(in(a[1], module(a[0]).upper.size()));
                int[] moved = Arrays.stream(module(a[0]).act).mapToInt(row -> row[a[1]] - a[1]).toArray();
                return zeros(moved);
            case "orbit":
                there(in(a[1], module(a[0]).upper.size()));
                return Arrays.stream(module(a[0]).act).mapToInt(row -> 1 << row[a[1]]).reduce(0, (s, t) -> s | t);
            case "writeModule":
                M m = module(a[0]);
                String row = Arrays.toString(m.boundary).replaceAll("[^0-9,]", "");
                return write(names.get(1).get(a[0]) + ":" + row + (why(m) == 0 ? "" : ";" + why(m)));
            case "setBoundary":
            case "setAct":
            case "rest":
            case "conjugate":
                return changeModule(name, a);
            default:
                return ofPair(name, a);
        }
    }

    private int changeModule(String name, int[] a) {
        M before = module(a[0]).copy();
        int upper = before.upper.size();
        int lower = before.lower.size();
        if (name.equals("setBoundary")) {
            there(in(a[1], upper) && in(a[2], lower));
        } else if (name.equals("setAct")) {
            there(in(a[1], lower) && in(a[2], upper) && in(a[3], upper));
        } else if (name.equals("conjugate")) {
            fit(before.upper.number == before.lower.number);
        }
        int lawful = lawfulSet();
        M m = change(a[0]);
        int others = 0;
        for (int g = 0; g < lower; g++) {
            for (int h = 0; h < upper; h++) {
                if (name.equals("rest")) {
                    m.act[g][h] = h;
                } else if (name.equals("conjugate")) {
                    m.act[g][h] = m.upper.conjugated(g, h);
                } else if (name.equals("setAct") && g == a[1] && h == a[2]) {
                    m.act[g][h] = a[3];
                } else if (name.equals("setBoundary") && h == a[1]) {
                    m.boundary[h] = a[2];
                }
                others += m.act[g][h] == before.act[g][h] ? 0 : 1;
            }
        }
        account(lawful);
        if (name.equals("setBoundary")) {
            return before.boundary[a[1]];
        }
        return name.equals("setAct") ? before.act[a[1]][a[2]] : others;
    }

    private int ofPair(String name, int[] a) {
        switch (name) {
            case "classes":
                return classes(lawfulModule(a[0])).size();
            case "classOf":
                there(in(a[1], module(a[0]).lower.size()));
                return classOf(lawfulModule(a[0]), a[1]);
            case "classTimes":
                int n = classes(lawfulModule(a[0])).size();
                fit(in(a[1], n) && in(a[2], n));
                return classTimes(module(a[0]), a[1], a[2]);
            case "classAct":
                M m = lawfulModule(a[0]);
                fit(in(a[1], classes(m).size()) && in(a[2], m.upper.size()) && m.boundary[a[2]] == 0);
                return m.act[classes(m).get(a[1]).first()][a[2]];
            case "profile":
                Map<String, Integer> pair = pair(lawfulModule(a[0]));
                fit(a[2] >= 1 && a[2] <= 8);
                return pair.getOrDefault((a[1] == 1 ? "classes " : "kernel ") + a[2], 0);
            case "areAlike":
                module(a[0]);
                module(a[1]);
                return pair(lawfulModule(a[0])).equals(pair(lawfulModule(a[1]))) ? 1 : 0;
            case "kinds":
                return firsts().size();
            case "firstAlike":
                return firsts().get(pair(lawfulModule(a[0])));
            default:
                return ofLarge(name, a);
        }
    }

    private Map<Map<String, Integer>, Integer> firsts() {
        Map<Map<String, Integer>, Integer> firsts = new HashMap<>();
        for (M m : world.modules) {
            if (why(m) == 0) {
                firsts.putIfAbsent(pair(m), m.number);
            }
        }
        return firsts;
    }

    private int ofLarge(String name, int[] a) {
        switch (name) {
            case "largeTimes":
                int[][] t = large(lawfulModule(a[0]));
                fit(in(a[1], t.length) && in(a[2], t.length));
                return t[a[1]][a[2]];
            case "target":
                M m = lawfulModule(a[0]);
                fit(in(a[1], large(m).length));
                return m.lower.table[m.boundary[a[1] / m.lower.size()]][a[1] % m.lower.size()];
            case "largeOrder":
                int[][] s = large(lawfulModule(a[0]));
                fit(in(a[1], s.length));
                return order(s, a[1]);
            case "between":
                there(in(a[1], module(a[0]).lower.size()) && in(a[2], module(a[0]).lower.size()));
                M l = lawfulModule(a[0]);
                int n = 0;
                for (int x = 0; x < large(l).length; x++) {
                    n += x % l.lower.size() == a[1] && ofLarge("target", new int[] {a[0], x}) == a[2] ? 1 : 0;
                }
                return n;
            default:
                return ofArrow(name, a);
        }
    }

    private int ofArrow(String name, int[] a) {
        switch (name) {
            case "end":
                return a[1] == 1 ? arrow(a[0]).to : arrow(a[0]).from;
            case "top":
                there(in(a[1], arrow(a[0]).top.length));
                return arrow(a[0]).top[a[1]];
            case "bottom":
                there(in(a[1], arrow(a[0]).bottom.length));
                return arrow(a[0]).bottom[a[1]];
            case "arrowWhy":
                return arrowWhy(arrow(a[0]));
            case "isEquivalence":
                return isEquivalence(arrow(a[0])) ? 1 : 0;
            case "equivalences":
                int set = 0;
                for (A w : world.arrows) {
                    set |= isEquivalence(w) ? 1 << world.arrows.indexOf(w) : 0;
                }
                return set;
            case "ladder":
                module(a[0]);
                module(a[1]);
                return distances()[a[0]][a[1]] >= 1000 ? -1 : distances()[a[0]][a[1]];
            case "joined":
                module(a[0]);
                int[] far = Arrays.stream(distances()[a[0]]).map(d -> d / 1000).toArray();
                return zeros(far);
            case "through":
                arrow(a[1]);
                there(in(a[2], arrow(a[0]).top.length));
                fit(arrow(a[1]).from == arrow(a[0]).to);
                return arrow(a[1]).top[arrow(a[0]).top[a[2]]];
            default:
                return changeArrow(name, a);
        }
    }

    private int changeArrow(String name, int[] a) {
        M from = module(arrow(a[0]).from);
        M to = module(arrow(a[0]).to);
        int before;
        switch (name) {
            case "setTop":
                there(in(a[1], from.upper.size()) && in(a[2], to.upper.size()));
                before = arrow(a[0]).top[a[1]];
                change(-1);
                arrow(a[0]).top[a[1]] = a[2];
                return before;
            case "setBottom":
                there(in(a[1], from.lower.size()) && in(a[2], to.lower.size()));
                before = arrow(a[0]).bottom[a[1]];
                change(-1);
                arrow(a[0]).bottom[a[1]] = a[2];
                return before;
            default:
                throw new AssertionError("no such call: " + name);
        }
    }
}
