import java.util.ArrayList;
import java.util.Arrays;
import java.util.Collections;
import java.util.List;
import java.util.Random;

/** Makes texts of groups, modules and arrows, most of them lawful, and spoils some. */
final class Texts {
    private final Random random;
    private final List<int[][]> groups = new ArrayList<>();
    private final List<String> groupNames = new ArrayList<>();
    private final List<Oracle.M> modules = new ArrayList<>();
    private final List<String> moduleNames = new ArrayList<>();
    private final List<String> lines = new ArrayList<>();
    private int arrows = 0;

    Texts(Random random) {
        this.random = random;
    }

    String make() {
        groups.clear();
        groupNames.clear();
        modules.clear();
        moduleNames.clear();
        lines.clear();
        arrows = 0;
        int most = random.nextInt(8) == 0 ? 7 : 1 + random.nextInt(6);
        for (int k = 0; k < most; k++) {
            addGroup();
        }
        most = random.nextInt(8) == 0 ? 7 : random.nextInt(7);
        for (int k = 0; k < most; k++) {
            addModule();
        }
        most = modules.isEmpty() ? 0 : random.nextInt(8) == 0 ? 9 : random.nextInt(9);
        for (int k = 0; k < most; k++) {
            addArrow();
        }
        StringBuilder text = new StringBuilder("crossed");
        for (String line : lines) {
            text.append(";").append(line);
        }
        return loosened(text.toString());
    }

    private String name(List<String> taken) {
        String[] pool = {"a", "b", "c", "group", "act", "product", "abcdefghij", "zz", "m", "n", "crossed", "module"};
        while (true) {
            String name = pool[random.nextInt(pool.length)] + (random.nextBoolean() ? "" : "q");
            name = name.substring(0, Math.min(10, name.length()));
            if (!taken.contains(name) || random.nextInt(60) == 0) {
                taken.add(name);
                return name;
            }
        }
    }

    private void addGroup() {
        int kind = random.nextInt(6);
        String rest;
        int[][] table;
        if (kind == 0) {
            int n = 3 + random.nextInt(2);
            rest = "dihedral " + n;
            table = Oracle.dihedral(n);
        } else if (kind == 1) {
            rest = "quaternion";
            table = Oracle.quaternion();
        } else if (kind == 2 && !groups.isEmpty()) {
            int left = random.nextInt(groups.size());
            int right = random.nextInt(groups.size());
            if (groups.get(left).length * groups.get(right).length > 8 && random.nextInt(10) > 0) {
                addGroup();
                return;
            }
            rest = "product " + groupNames.get(left) + " " + groupNames.get(right);
            table = Oracle.product(groups.get(left), groups.get(right));
        } else {
            int n = 1 + random.nextInt(random.nextBoolean() ? 4 : 8);
            rest = "cyclic " + n;
            table = Oracle.cyclic(n);
        }
        lines.add("group " + name(groupNames) + " " + rest);
        groups.add(table);
    }

    private void addModule() {
        Oracle.M m = new Oracle.M();
        m.number = modules.size();
        int upper = random.nextInt(groups.size());
        int lower = random.nextInt(4) == 0 ? upper : random.nextInt(groups.size());
        m.upper = new Oracle.G(upper, groups.get(upper));
        m.lower = new Oracle.G(lower, groups.get(lower));
        boolean lawful = groups.get(upper).length <= 8 && groups.get(lower).length <= 8 && makeLawful(m);
        if (!lawful) {
            m.boundary = new int[m.upper.size()];
            m.act = resting(m);
        }
        if (random.nextInt(6) == 0) {
            m.boundary[random.nextInt(m.boundary.length)] = random.nextInt(m.lower.size());
        }
        if (random.nextInt(8) == 0) {
            m.act[random.nextInt(m.act.length)][random.nextInt(m.upper.size())] = random.nextInt(m.upper.size());
        }
        modules.add(m);
        String name = name(moduleNames);
        lines.add("module " + name + " " + groupNames.get(upper) + " " + groupNames.get(lower) + row(m.boundary));
        for (int g = 0; g < m.act.length; g++) {
            if (!Arrays.equals(m.act[g], resting(m)[g]) || random.nextInt(12) == 0) {
                int place = random.nextBoolean() ? lines.size() : 1 + lines.indexOf(linesOf(name));
                lines.add(place, "act " + name + " " + g + row(m.act[g]));
            }
        }
    }

    private String linesOf(String module) {
        for (String line : lines) {
            if (line.startsWith("module " + module + " ")) {
                return line;
            }
        }
        return lines.get(lines.size() - 1);
    }

    private static int[][] resting(Oracle.M m) {
        int[][] act = new int[m.lower.size()][m.upper.size()];
        for (int[] row : act) {
            Arrays.setAll(row, h -> h);
        }
        return act;
    }

    private static String row(int[] values) {
        StringBuilder text = new StringBuilder();
        for (int v : values) {
            text.append(' ').append(v);
        }
        return text.toString();
    }

    private boolean makeLawful(Oracle.M m) {
        List<int[]> automorphisms = new ArrayList<>();
        maps(m.upper.table(), m.upper.table(), new int[m.upper.size()], 0, true, automorphisms, 2000);
        for (int tries = 0; tries < 6; tries++) {
            m.boundary = anyMap(m.upper.table(), m.lower.table());
            m.act = new int[m.lower.size()][];
            if (findAction(m, automorphisms, 0, new int[] {0}) && Oracle.why(m) == 0) {
                if (random.nextInt(7) == 0) {
                    m.act[random.nextInt(m.act.length)] = automorphisms.get(random.nextInt(automorphisms.size())).clone();
                }
                return true;
            }
        }
        return false;
    }

    private boolean findAction(Oracle.M m, List<int[]> automorphisms, int g, int[] steps) {
        if (g == m.lower.size()) {
            return true;
        }
        List<int[]> shuffled = new ArrayList<>(automorphisms);
        Collections.shuffle(shuffled, random);
        for (int[] f : shuffled) {
            m.act[g] = f;
            steps[0]++;
            if (steps[0] < 3000 && actionFits(m, g) && findAction(m, automorphisms, g + 1, steps)) {
                return true;
            }
        }
        m.act[g] = null;
        return false;
    }

    private static boolean actionFits(Oracle.M m, int g) {
        for (int h = 0; h < m.upper.size(); h++) {
            boolean fits = m.boundary[m.act[g][h]] == m.lower.conjugated(g, m.boundary[h]);
            for (int k = 0; k < m.upper.size() && fits && m.boundary[h] == g; k++) {
                fits = m.act[g][k] == m.upper.conjugated(h, k);
            }
            for (int f = 0; f <= g && fits; f++) {
                int[] both = m.act[m.lower.table()[g][f]];
                int[] turned = m.act[m.lower.table()[f][g]];
                fits = (both == null || m.lower.table()[g][f] > g || both[h] == m.act[g][m.act[f][h]])
                        && (turned == null || m.lower.table()[f][g] > g || turned[h] == m.act[f][m.act[g][h]]);
            }
            if (!fits) {
                return false;
            }
        }
        return true;
    }

    private int[] anyMap(int[][] s, int[][] t) {
        List<int[]> all = new ArrayList<>();
        maps(s, t, new int[s.length], 0, false, all, 300);
        return all.get(random.nextInt(all.size())).clone();
    }

    /** All maps that keep products. */
    private static void maps(int[][] s, int[][] t, int[] map, int a, boolean oneToOne, List<int[]> all, int most) {
        if (a == s.length) {
            all.add(map.clone());
            return;
        }
        for (int to = 0; to < t.length && all.size() < most; to++) {
            map[a] = to;
            boolean fits = true;
            for (int b = 0; b <= a && fits; b++) {
                fits = (s[a][b] > a || map[s[a][b]] == t[map[a]][map[b]])
                        && (s[b][a] > a || map[s[b][a]] == t[map[b]][map[a]])
                        && (!oneToOne || b == a || map[b] != to);
                for (int c = 0; c <= a && fits; c++) {
                    fits = s[b][c] != a || map[a] == t[map[b]][map[c]];
                }
            }
            if (fits) {
                maps(s, t, map, a + 1, oneToOne, all, most);
            }
        }
    }

    private void addArrow() {
        int from = random.nextInt(modules.size());
        int to = random.nextInt(modules.size());
        Oracle.M m = modules.get(from);
        Oracle.M n = modules.get(to);
        if (m.upper.size() > 8 || n.upper.size() > 8 || m.lower.size() > 8 || n.lower.size() > 8) {
            return;
        }
        int[] top = new int[m.upper.size()];
        int[] bottom = new int[m.lower.size()];
        boolean found = false;
        boolean actionToo = random.nextInt(4) > 0;
        for (int tries = 0; tries < 150 && !found; tries++) {
            top = anyMap(m.upper.table(), n.upper.table());
            bottom = anyMap(m.lower.table(), n.lower.table());
            found = fitsArrow(m, n, top, bottom, actionToo) && (tries > 120 || tells(m, top, bottom));
        }
        if (!found && random.nextInt(3) > 0) {
            top = new int[m.upper.size()];
            bottom = new int[m.lower.size()];
        }
        if (random.nextInt(12) == 0) {
            top[random.nextInt(top.length)] = random.nextInt(n.upper.size());
        }
        if (random.nextInt(12) == 0) {
            bottom[random.nextInt(bottom.length)] = random.nextInt(n.lower.size());
        }
        String name = "f" + (char) ('a' + arrows++);
        lines.add("arrow " + name + " " + moduleNames.get(from) + " " + moduleNames.get(to) + row(top) + row(bottom));
    }

    /** Whether different elements of the kernel have different tops, as an equivalence wants it. */
    private static boolean tells(Oracle.M m, int[] top, int[] bottom) {
        for (int h = 1; h < top.length; h++) {
            if (m.boundary[h] == 0 && top[h] == 0) {
                return false;
            }
        }
        return true;
    }

    private static boolean fitsArrow(Oracle.M m, Oracle.M n, int[] top, int[] bottom, boolean actionToo) {
        for (int h = 0; h < top.length; h++) {
            if (n.boundary[top[h]] != bottom[m.boundary[h]]) {
                return false;
            }
            for (int g = 0; g < bottom.length && actionToo; g++) {
                if (top[m.act[g][h]] != n.act[bottom[g]][top[h]]) {
                    return false;
                }
            }
        }
        return true;
    }

    /** Puts blanks and leading zeros in, or takes blanks out, where the text means the same. */
    private String loosened(String text) {
        if (random.nextBoolean()) {
            return text;
        }
        StringBuilder loose = new StringBuilder(random.nextInt(4) == 0 ? " " : "");
        for (int i = 0; i < text.length(); i++) {
            char c = text.charAt(i);
            char before = i > 0 ? text.charAt(i - 1) : ' ';
            char behind = i + 1 < text.length() ? text.charAt(i + 1) : ' ';
            boolean needed = c == ' ' && Character.isLetter(before) == Character.isLetter(behind);
            if (c == ' ' && !needed && random.nextInt(5) == 0) {
                continue;
            }
            if (c == ';' && random.nextInt(8) == 0) {
                loose.append(' ');
            }
            if (Character.isDigit(c) && random.nextInt(25) == 0) {
                loose.append('0');
            }
            loose.append(c);
            if ((c == ' ' || c == ';') && random.nextInt(12) == 0) {
                loose.append(' ');
            }
        }
        return loose.toString();
    }

    String spoiled(String text) {
        StringBuilder bad = new StringBuilder(text);
        int times = 1 + random.nextInt(2);
        for (int i = 0; i < times && bad.length() > 0; i++) {
            int place = random.nextInt(bad.length());
            String signs = ";;  0123456789abmz" + (char) 233 + "-A\t\0/:`{";
            char sign = signs.charAt(random.nextInt(signs.length()));
            switch (random.nextInt(7)) {
                case 0 -> bad.deleteCharAt(place);
                case 1 -> bad.insert(place, sign);
                case 2 -> bad.setCharAt(place, sign);
                case 3 -> bad.setLength(place);
                case 4 -> cutPiece(bad, place);
                case 5 -> bad.insert(place, bad.substring(place, Math.min(bad.length(), place + random.nextInt(40))));
                default -> bad.append(sign);
            }
        }
        return bad.toString();
    }

    private void cutPiece(StringBuilder bad, int place) {
        bad.delete(place, Math.min(bad.length(), place + random.nextInt(30)));
    }
}
