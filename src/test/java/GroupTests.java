/** Promises 9 to 16 and groups (section 1). */
public final class GroupTests {
    private static final String TEXT = "crossed;group c cyclic 8;group s dihedral 3;group d dihedral 4"
            + ";group q quaternion;group b cyclic 2;group v product b b";
    private static final String PRODUCTS = "crossed;group a cyclic 2;group b cyclic 3;group c product a b"
            + ";group d product b a;group e product a a;group f product e a";

    public static void main(String[] args) {
        sizesAndLaws();
        products();
        ordersAndInverses();
        centresAndClasses();
        generatedSets();
        refusals();
        Checks.finish("GroupTests");
    }

    private static void sizesAndLaws() {
        int[] sizes = {8, 6, 8, 8, 2, 4};
        int[] others = {2, 3, 6, 6, 4, 8};
        CrossedModules x = Checks.loaded(TEXT);
        CrossedModules y = Checks.loaded(PRODUCTS);
        for (int k = 0; k < 6; k++) {
            int group = k;
            Checks.due("9 size " + k, sizes[k], () -> x.size(group));
            Checks.due("9 size of products " + k, others[k], () -> y.size(group));
        }
        for (int k = 1; k <= 8; k++) {
            int n = k;
            CrossedModules z = Checks.loaded("crossed;group a cyclic " + k);
            Checks.due("9 cyclic " + k, n, () -> z.size(0));
            Checks.due("10 cyclic " + k, (n - 1 + n / 2) % n, () -> z.times(0, n - 1, n / 2));
        }
    }

    private static String table(CrossedModules x, int group) {
        StringBuilder rows = new StringBuilder();
        for (int a = 0; a < x.size(group); a++) {
            for (int b = 0; b < x.size(group); b++) {
                rows.append(x.times(group, a, b));
            }
            rows.append(a < x.size(group) - 1 ? "/" : "");
        }
        return rows.toString();
    }

    private static void products() {
        CrossedModules x = Checks.loaded(TEXT);
        Checks.judge("10 dihedral 3", "012345/120453/201534/354021/435102/543210", table(x, 1));
        Checks.judge("10 dihedral 4", dihedralDue(4), table(Checks.loaded(TEXT), 2));
        quaternions();
        CrossedModules y = Checks.loaded(PRODUCTS);
        // (1, 2) * (1, 2) = (0, 1): 5 * 5 = 1; in the other order of parts (2, 1) * (2, 1) = (1, 0): 5 * 5 = 2
        Checks.due("10 a product", 1, () -> y.times(2, 5, 5));
        Checks.due("10 the other product", 2, () -> y.times(3, 5, 5));
        Checks.due("10 (1, 1) * (1, 2)", 0, () -> y.times(2, 4, 5));
        Checks.due("10 (1, 1) * (2, 0)", 1, () -> y.times(3, 3, 4));
        Checks.due("10 a product of a product", 3, () -> y.times(5, 5, 6));
    }

    private static String dihedralDue(int n) {
        StringBuilder rows = new StringBuilder();
        for (int a = 0; a < 2 * n; a++) {
            for (int b = 0; b < 2 * n; b++) {
                int i = a % n;
                int j = b % n;
                int turned = a < n ? (i + j) % n : (n + i - j) % n;
                rows.append((a < n) == (b < n) ? turned : n + turned);
            }
            rows.append(a < 2 * n - 1 ? "/" : "");
        }
        return rows.toString();
    }

    private static void quaternions() {
        CrossedModules x = Checks.loaded("crossed;group q quaternion");
        int[][] due = {{1, 1, 4}, {2, 2, 4}, {3, 3, 4}, {1, 2, 3}, {2, 3, 1}, {3, 1, 2}, {2, 1, 7}, {3, 2, 5},
            {1, 3, 6}, {5, 2, 7}, {5, 6, 3}, {6, 5, 7}, {4, 4, 0}, {4, 3, 7}, {7, 4, 3}, {0, 6, 6}, {5, 1, 0}};
        for (int[] d : due) {
            Checks.due("10 quaternion " + d[0] + " * " + d[1], d[2], () -> x.times(0, d[0], d[1]));
        }
    }

    private static void ordersAndInverses() {
        CrossedModules x = Checks.loaded(TEXT);
        int[][] orders = {{1, 8, 4, 8, 2, 8, 4, 8}, {1, 3, 3, 2, 2, 2}, {1, 4, 2, 4, 2, 2, 2, 2},
            {1, 4, 4, 4, 2, 4, 4, 4}, {1, 2}, {1, 2, 2, 2}};
        int[][] inverses = {{0, 7, 6, 5, 4, 3, 2, 1}, {0, 2, 1, 3, 4, 5}, {0, 3, 2, 1, 4, 5, 6, 7},
            {0, 5, 6, 7, 4, 1, 2, 3}, {0, 1}, {0, 1, 2, 3}};
        for (int k = 0; k < 6; k++) {
            for (int a = 0; a < orders[k].length; a++) {
                int group = k;
                int element = a;
                Checks.due("12 order of " + a + " in " + k, orders[k][a], () -> x.orderOf(group, element));
                Checks.due("11 inverse of " + a + " in " + k, inverses[k][a], () -> x.inverse(group, element));
            }
        }
        CrossedModules y = Checks.loaded(PRODUCTS);
        Checks.due("12 order 6 in a product", 6, () -> y.orderOf(2, 4));
        Checks.due("11 inverse in a product", 5, () -> y.inverse(2, 4));
    }

    private static void centresAndClasses() {
        CrossedModules x = Checks.loaded(TEXT);
        int[] centres = {255, 1, 5, 17, 3, 15};
        int[] classes = {8, 3, 5, 5, 2, 4};
        for (int k = 0; k < 6; k++) {
            int group = k;
            Checks.due("13 centre " + k, centres[k], () -> x.centre(group));
            Checks.due("14 conjugacy " + k, classes[k], () -> x.conjugacy(group));
        }
    }

    private static void generatedSets() {
        CrossedModules x = Checks.loaded(TEXT);
        int[][] due = {{0, 0, 1, 1}, {0, 1, 1, 1}, {0, 2, 255, 255}, {0, 4, 85, 85}, {0, 16, 17, 17}, {0, 64, 85, 85},
            {0, 20, 85, 85}, {0, 128, 255, 255}, {1, 2, 7, 7}, {1, 8, 9, 63}, {1, 16, 17, 63}, {1, 48, 63, 63},
            {2, 16, 17, 85}, {2, 32, 33, 165}, {2, 4, 5, 5}, {2, 80, 85, 85}, {2, 48, 255, 255}, {2, 2, 15, 15},
            {3, 2, 51, 51}, {3, 16, 17, 17}, {3, 6, 255, 255}, {3, 128, 153, 153}, {4, 3, 3, 3}, {5, 6, 15, 15},
            {5, 8, 9, 9}};
        for (int[] d : due) {
            Checks.due("15 generated " + d[0] + ", " + d[1], d[2], () -> x.generated(d[0], d[1]));
            Checks.due("16 normal " + d[0] + ", " + d[1], d[3], () -> x.normal(d[0], d[1]));
        }
    }

    private static void refusals() {
        CrossedModules x = Checks.loaded(TEXT);
        CrossedModules none = new CrossedModules();
        int[] groups = {-1, 6, Integer.MIN_VALUE, Integer.MAX_VALUE};
        for (int k : groups) {
            Checks.refused("9 group " + k, Checks.INDEX, () -> x.size(k));
            Checks.refused("10 group " + k, Checks.INDEX, () -> x.times(k, 0, 0));
            Checks.refused("11 group " + k, Checks.INDEX, () -> x.inverse(k, 0));
            Checks.refused("12 group " + k, Checks.INDEX, () -> x.orderOf(k, 0));
            Checks.refused("13 group " + k, Checks.INDEX, () -> x.centre(k));
            Checks.refused("14 group " + k, Checks.INDEX, () -> x.conjugacy(k));
            Checks.refused("15 group " + k, Checks.INDEX, () -> x.generated(k, -1));
            Checks.refused("16 group " + k, Checks.INDEX, () -> x.normal(k, -1));
        }
        int[] elements = {-1, 6, 7, Integer.MIN_VALUE, Integer.MAX_VALUE};
        for (int a : elements) {
            Checks.refused("10 first factor " + a, Checks.INDEX, () -> x.times(1, a, 0));
            Checks.refused("10 second factor " + a, Checks.INDEX, () -> x.times(1, 0, a));
            Checks.refused("11 element " + a, Checks.INDEX, () -> x.inverse(1, a));
            Checks.refused("12 element " + a, Checks.INDEX, () -> x.orderOf(1, a));
        }
        int[] sets = {64, 65, -1, 256, Integer.MIN_VALUE};
        for (int set : sets) {
            Checks.refused("15 set " + set, Checks.ARGUMENT, () -> x.generated(1, set));
            Checks.refused("16 set " + set, Checks.ARGUMENT, () -> x.normal(1, set));
        }
        Checks.refused("9 no text", Checks.STATE, () -> none.size(0));
        Checks.refused("10 no text", Checks.STATE, () -> none.times(-1, 0, 0));
        Checks.refused("11 no text", Checks.STATE, () -> none.inverse(0, -1));
        Checks.refused("12 no text", Checks.STATE, () -> none.orderOf(0, 0));
        Checks.refused("13 no text", Checks.STATE, () -> none.centre(0));
        Checks.refused("14 no text", Checks.STATE, () -> none.conjugacy(0));
        Checks.refused("15 no text", Checks.STATE, () -> none.generated(0, -1));
        Checks.refused("16 no text", Checks.STATE, () -> none.normal(0, -1));
    }
}
