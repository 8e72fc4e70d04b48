/** Promises 27 to 38: pairs (section 3) and large groups (section 4). */
public final class PairTests {
    /** 0 the dihedral group above itself, 1 its turns in it, 2 a kernel of 4 with a broken sister 3, 4 quaternions. */
    private static final String TEXT = "crossed;group s dihedral 3;group c cyclic 3;group a cyclic 4;group b cyclic 2"
            + ";group q quaternion;group v product b b"
            + ";module i s s 0 1 2 3 4 5;act i 0 0 1 2 3 4 5;act i 1 0 1 2 5 3 4;act i 2 0 1 2 4 5 3"
            + ";act i 3 0 2 1 3 5 4;act i 4 0 2 1 5 4 3;act i 5 0 2 1 4 3 5"
            + ";module n c s 0 1 2;act n 3 0 2 1;act n 4 0 2 1;act n 5 0 2 1"
            + ";module z a v 0 0 0 0;act z 1 0 3 2 1;act z 3 0 3 2 1"
            + ";module y a v 0 0 0 0;act y 1 0 3 2 1"
            + ";module q q v 0 1 2 3 0 1 2 3;act q 1 0 1 6 7 4 5 2 3;act q 2 0 5 2 7 4 1 6 3;act q 3 0 5 6 3 4 1 2 7";
    private static final String ALIKE = "crossed;group b cyclic 2;group v product b b;group a cyclic 4;group t cyclic 1"
            + ";module k v t 0 0 0 0;module l a t 0 0 0 0;module m v b 0 1 0 1;module n b t 0 0;module o b b 0 0"
            + ";module p v b 0 1 1 1";

    public static void main(String[] args) {
        lawfulOnes();
        classesOfElements();
        classProductsAndActions();
        profiles();
        alike();
        largeProducts();
        targetsAndOrders();
        countsBetween();
        refusals();
        brokenOnes();
        Checks.finish("PairTests");
    }

    private static void lawfulOnes() {
        CrossedModules x = Checks.loaded(TEXT);
        Checks.due("21 lawful", 23, x::lawful);
        Checks.due("20 broken", 3, () -> x.why(3));
        CrossedModules y = Checks.loaded(ALIKE);
        Checks.due("21 lawful", 31, y::lawful);
    }

    private static void classesOfElements() {
        CrossedModules x = Checks.loaded(TEXT);
        int[][] due = {{0, 1, 0, 0, 0, 0, 0, 0}, {1, 2, 0, 0, 0, 1, 1, 1}, {2, 4, 0, 1, 2, 3}, {4, 1, 0, 0, 0, 0}};
        for (int[] d : due) {
            Checks.due("27 classes of " + d[0], d[1], () -> x.classes(d[0]));
            for (int g = 0; g + 2 < d.length; g++) {
                int element = g;
                Checks.due("28 class of " + g + " of " + d[0], d[g + 2], () -> x.classOf(d[0], element));
            }
        }
        CrossedModules y = Checks.loaded("crossed;group b cyclic 2;group c cyclic 8;module m b c 0 4;module n b c 0 0");
        for (int g = 0; g < 8; g++) {
            int element = g;
            Checks.due("28 class of " + g, g % 4, () -> y.classOf(0, element));
            Checks.due("28 class of " + g + " with the image of the unit", g, () -> y.classOf(1, element));
        }
        Checks.due("27 half of them", 4, () -> y.classes(0));
        Checks.due("27 all of them", 8, () -> y.classes(1));
    }

    private static void classProductsAndActions() {
        CrossedModules x = Checks.loaded(TEXT);
        Checks.due("29 one class", 0, () -> x.classTimes(0, 0, 0));
        Checks.due("29 two classes", 0, () -> x.classTimes(1, 1, 1));
        Checks.due("29 two classes", 1, () -> x.classTimes(1, 0, 1));
        Checks.due("29 four classes", 3, () -> x.classTimes(2, 1, 2));
        Checks.refused("29 no class 1", Checks.ARGUMENT, () -> x.classTimes(0, 1, 0));
        Checks.refused("29 no class 2", Checks.ARGUMENT, () -> x.classTimes(1, 0, 2));
        Checks.refused("29 no class -1", Checks.ARGUMENT, () -> x.classTimes(1, -1, 0));
        CrossedModules y = Checks.loaded("crossed;group b cyclic 2;group c cyclic 8;module m b c 0 4");
        Checks.due("29 the product beyond the image", 1, () -> y.classTimes(0, 2, 3));
        Checks.due("30 a class that turns", 3, () -> x.classAct(2, 1, 1));
        Checks.due("30 a class that rests", 1, () -> x.classAct(2, 2, 1));
        Checks.due("30 in the kernel", 4, () -> x.classAct(4, 0, 4));
        Checks.refused("30 not in the kernel", Checks.ARGUMENT, () -> x.classAct(4, 0, 1));
        Checks.refused("30 no class 1", Checks.ARGUMENT, () -> x.classAct(4, 1, 4));
        Checks.refused("30 no class -1", Checks.ARGUMENT, () -> x.classAct(2, -1, 1));
        Checks.refused("30 no class 4", Checks.ARGUMENT, () -> x.classAct(2, 4, 1));
        Checks.refused("30 no element 4", Checks.ARGUMENT, () -> x.classAct(2, 1, 4));
        Checks.refused("30 no element -1", Checks.ARGUMENT, () -> x.classAct(2, 1, -1));
        Checks.refused("30 no element far above", Checks.ARGUMENT, () -> x.classAct(2, 1, Integer.MAX_VALUE));
    }

    private static void profiles() {
        CrossedModules x = Checks.loaded(TEXT);
        int[][] kernels = {{0, 1, 0, 0, 0, 0, 0, 0, 0}, {1, 1, 0, 0, 0, 0, 0, 0, 0}, {2, 1, 1, 0, 2, 0, 0, 0, 0},
            {4, 1, 1, 0, 0, 0, 0, 0, 0}};
        int[][] lowers = {{0, 1, 0, 0, 0, 0, 0, 0, 0}, {1, 1, 1, 0, 0, 0, 0, 0, 0}, {2, 1, 3, 0, 0, 0, 0, 0, 0},
            {4, 1, 0, 0, 0, 0, 0, 0, 0}};
        for (int k = 0; k < kernels.length; k++) {
            for (int order = 1; order <= 8; order++) {
                int module = kernels[k][0];
                int n = order;
                Checks.due("31 kernel " + module + ", " + n, kernels[k][n], () -> x.profile(module, false, n));
                Checks.due("31 classes " + module + ", " + n, lowers[k][n], () -> x.profile(module, true, n));
            }
        }
        CrossedModules y = Checks.loaded("crossed;group b cyclic 2;group c cyclic 8;module m b c 0 4;module n c c 0 0 0 0 0 0 0 0");
        Checks.due("31 classes of order 4", 2, () -> y.profile(0, true, 4));
        Checks.due("31 classes of order 2", 1, () -> y.profile(0, true, 2));
        Checks.due("31 classes of order 8", 0, () -> y.profile(0, true, 8));
        Checks.due("31 eight of order 8", 4, () -> y.profile(1, true, 8));
        Checks.due("31 eight of order 8 in the kernel", 4, () -> y.profile(1, false, 8));
        Checks.refused("31 order 0", Checks.ARGUMENT, () -> x.profile(0, true, 0));
        Checks.refused("31 order 9", Checks.ARGUMENT, () -> x.profile(0, false, 9));
        Checks.refused("31 order -1", Checks.ARGUMENT, () -> x.profile(0, false, -1));
    }

    private static void alike() {
        CrossedModules y = Checks.loaded(ALIKE);
        int[][] due = {{0, 0, 1}, {0, 1, 0}, {0, 2, 0}, {2, 3, 1}, {3, 2, 1}, {3, 4, 0}, {1, 1, 1}};
        for (int[] d : due) {
            Checks.due("32 " + d[0] + ", " + d[1], d[2], () -> Checks.bit(y.areAlike(d[0], d[1])));
        }
        int[] firsts = {0, 1, 2, 2, 4};
        for (int k = 0; k < firsts.length; k++) {
            int module = k;
            Checks.due("34 firstAlike " + k, firsts[k], () -> y.firstAlike(module));
        }
        Checks.due("33 kinds", 4, y::kinds);
        y.setBoundary(2, 0, 1);
        Checks.due("34 a broken one ahead is passed over", 3, () -> y.firstAlike(3));
        Checks.due("33 as many kinds", 4, y::kinds);
        y.setBoundary(1, 3, 0);
        Checks.due("33 no kind less", 4, y::kinds);
        y.setAct(1, 0, 1, 2);
        Checks.due("33 a kind less", 3, y::kinds);
        Checks.due("33 no modules", 0, Checks.loaded("crossed")::kinds);
    }

    private static void largeProducts() {
        CrossedModules x = Checks.loaded(TEXT);
        // (1, 3) * (1, 4): 1 * (3 on 1) = 1 * 2 = 0 above, 3 * 4 = 2 below
        Checks.due("35 turned by the lower part", 2, () -> x.largeTimes(1, 9, 10));
        // (1, 0) * (1, 4): 1 * 1 = 2 above, 4 below
        Checks.due("35 not turned", 16, () -> x.largeTimes(1, 6, 10));
        // (3, 1) * (4, 3): 3 * (1 on 4) = 3 * 3 = 0 above, 1 * 3 = 4 below
        Checks.due("35 both parts dihedral", 4, () -> x.largeTimes(0, 19, 27));
        // (1, 2) of quaternions: 1 * (2 on 1) = i * -i = 1
        Checks.due("35 quaternions", 0, () -> x.largeTimes(4, 6, 6));
        Checks.due("35 the last ones", 17, () -> x.largeTimes(1, 17, 0));
        Checks.refused("35 x behind the last", Checks.ARGUMENT, () -> x.largeTimes(1, 18, 0));
        Checks.refused("35 y behind the last", Checks.ARGUMENT, () -> x.largeTimes(1, 0, 18));
        Checks.refused("35 x -1", Checks.ARGUMENT, () -> x.largeTimes(1, -1, 0));
        Checks.refused("35 y -1", Checks.ARGUMENT, () -> x.largeTimes(1, 0, -1));
    }

    private static void targetsAndOrders() {
        CrossedModules x = Checks.loaded(TEXT);
        // (1, 3): boundary 1 times 3 = 4; (4, 1): 4 * 1 = 3
        Checks.due("36 target", 4, () -> x.target(1, 9));
        Checks.due("36 target of two reflections", 3, () -> x.target(0, 25));
        Checks.due("36 target, in this order", 4, () -> x.target(0, 9));
        Checks.due("36 target of the unit", 0, () -> x.target(4, 0));
        Checks.refused("36 behind the last", Checks.ARGUMENT, () -> x.target(4, 32));
        Checks.refused("36 -1", Checks.ARGUMENT, () -> x.target(4, -1));
        Checks.due("37 the unit", 1, () -> x.largeOrder(0, 0));
        Checks.due("37 (1, 3)", 2, () -> x.largeOrder(1, 9));
        Checks.due("37 (1, 1)", 3, () -> x.largeOrder(1, 7));
        Checks.due("37 quaternion (1, 1)", 4, () -> x.largeOrder(4, 5));
        Checks.due("37 quaternion (1, 2)", 2, () -> x.largeOrder(4, 6));
        Checks.refused("37 behind the last", Checks.ARGUMENT, () -> x.largeOrder(1, 18));
        Checks.refused("37 -1", Checks.ARGUMENT, () -> x.largeOrder(1, -1));
        CrossedModules y = Checks.loaded("crossed;group e cyclic 5;group f cyclic 7;group g cyclic 8"
                + ";module m e f 0 0 0 0 0;module n f g 0 0 0 0 0 0 0;module o g g 0 0 0 0 0 0 0 0");
        Checks.due("37 five times seven", 35, () -> y.largeOrder(0, 8));
        Checks.due("37 seven times eight", 56, () -> y.largeOrder(1, 9));
        Checks.due("37 eight and eight", 8, () -> y.largeOrder(2, 63));
        Checks.due("35 eight and eight", 54, () -> y.largeTimes(2, 63, 63));
        Checks.refused("37 behind 63", Checks.ARGUMENT, () -> y.largeOrder(2, 64));
    }

    private static void countsBetween() {
        CrossedModules x = Checks.loaded(TEXT);
        int[][] due = {{0, 1, 4, 1}, {1, 0, 2, 1}, {1, 0, 3, 0}, {1, 3, 5, 1}, {2, 1, 1, 4}, {2, 1, 2, 0}, {4, 1, 2, 2}};
        for (int[] d : due) {
            Checks.due("38 between " + d[0] + ", " + d[1] + ", " + d[2], d[3], () -> x.between(d[0], d[1], d[2]));
        }
        Checks.refused("38 g 4", Checks.INDEX, () -> x.between(2, 4, 0));
        Checks.refused("38 f 4", Checks.INDEX, () -> x.between(2, 0, 4));
        Checks.refused("38 g -1", Checks.INDEX, () -> x.between(2, -1, 0));
        Checks.refused("38 f -1", Checks.INDEX, () -> x.between(2, 0, -1));
        Checks.refused("38 f -1 of a broken one", Checks.INDEX, () -> x.between(3, 0, -1));
        Checks.refused("28 g 4", Checks.INDEX, () -> x.classOf(2, 4));
        Checks.refused("28 g -1", Checks.INDEX, () -> x.classOf(2, -1));
        Checks.refused("28 g 4 of a broken one", Checks.INDEX, () -> x.classOf(3, 4));
    }

    private static void refusals() {
        CrossedModules x = Checks.loaded(TEXT);
        CrossedModules none = new CrossedModules();
        int[] modules = {-1, 5, Integer.MIN_VALUE, Integer.MAX_VALUE};
        for (int k : modules) {
            everyCall("no such module", x, k, Checks.INDEX);
            Checks.refused("32 no such other", Checks.INDEX, () -> Checks.bit(x.areAlike(0, k)));
            Checks.refused("32 no such other, the first broken", Checks.INDEX, () -> Checks.bit(x.areAlike(3, k)));
        }
        everyCall("no text", none, 0, Checks.STATE);
        everyCall("no text and no module", none, -1, Checks.STATE);
        Checks.refused("33 no text", Checks.STATE, none::kinds);
    }

    private static void brokenOnes() {
        CrossedModules x = Checks.loaded(TEXT);
        everyCall("not lawful", x, 3, Checks.ARGUMENT);
        Checks.refused("32 the other one not lawful", Checks.ARGUMENT, () -> Checks.bit(x.areAlike(0, 3)));
        Checks.refused("31 not lawful, no order", Checks.ARGUMENT, () -> x.profile(3, true, 0));
    }

    private static void everyCall(String what, CrossedModules x, int k, Class<? extends RuntimeException> e) {
        Checks.refused("27 " + what, e, () -> x.classes(k));
        Checks.refused("28 " + what, e, () -> x.classOf(k, 0));
        Checks.refused("29 " + what, e, () -> x.classTimes(k, 0, 0));
        Checks.refused("30 " + what, e, () -> x.classAct(k, 0, 0));
        Checks.refused("31 " + what, e, () -> x.profile(k, true, 1));
        Checks.refused("32 " + what, e, () -> Checks.bit(x.areAlike(k, 0)));
        Checks.refused("34 " + what, e, () -> x.firstAlike(k));
        Checks.refused("35 " + what, e, () -> x.largeTimes(k, 0, 0));
        Checks.refused("36 " + what, e, () -> x.target(k, 0));
        Checks.refused("37 " + what, e, () -> x.largeOrder(k, 0));
        Checks.refused("38 " + what, e, () -> x.between(k, 0, 0));
    }
}
