/** Promises 17 to 26 and the laws of modules (section 2). */
public final class ModuleTests {
    /** For each law the module that breaks it and none ahead of it, and a lawful one ahead of them. */
    private static final String LAWS = "crossed;group a cyclic 4;group b cyclic 2;group s dihedral 3"
            + ";module l a b 0 1 0 1"
            + ";module p a b 0 1 1 1"
            + ";module q a b 0 0 0 0;act q 1 0 1 2 1"
            + ";module r a b 0 0 0 0;act r 0 0 3 2 1"
            + ";module t s s 0 1 2 3 4 5"
            + ";module u s b 0 0 0 0 0 0";

    public static void main(String[] args) {
        reasons();
        secondLaw();
        thirdLaw();
        lookups();
        kernelsAndImages();
        fixedAndOrbits();
        refusals();
        Checks.finish("ModuleTests");
    }

    private static void reasons() {
        CrossedModules x = Checks.loaded(LAWS);
        for (int k = 0; k < 6; k++) {
            int module = k;
            Checks.due("20 why " + k, k, () -> x.why(module));
        }
        Checks.due("21 lawful", 1, x::lawful);
        Checks.due("55 conjugate mends reason 4", 18, () -> x.conjugate(4));
        Checks.due("20 lawful now", 0, () -> x.why(4));
        Checks.due("21 both", 17, x::lawful);
        CrossedModules none = Checks.loaded("crossed");
        Checks.due("21 no modules", 0, none::lawful);
    }

    private static void secondLaw() {
        CrossedModules x = Checks.loaded("crossed;group a cyclic 4;group b cyclic 2;group v product b b;group t cyclic 1"
                + ";module m a t 0 0 0 0;act m 0 0 2 1 3;module n v t 0 0 0 0;act n 0 0 0 0 0"
                + ";module o v t 0 0 0 0;act o 0 0 2 1 3");
        Checks.due("20 one to one, and no product is kept", 2, () -> x.why(0));
        Checks.due("20 products are kept, and not one to one", 2, () -> x.why(1));
        Checks.due("20 an automorphism that is not the unit's", 3, () -> x.why(2));
    }

    private static void thirdLaw() {
        CrossedModules x = Checks.loaded("crossed;group a cyclic 4;group c cyclic 3"
                + ";module m a a 0 0 0 0;act m 1 0 3 2 1;act m 3 0 3 2 1"
                + ";module n a a 0 0 0 0;act n 1 0 3 2 1;act n 2 0 3 2 1"
                + ";module o c a 0 0 0;act o 1 0 2 1;act o 3 0 2 1"
                + ";module p a a 0 2 0 2;act p 1 0 3 2 1;act p 3 0 3 2 1"
                + ";module q a a 0 1 2 3;act q 1 0 3 2 1;act q 3 0 3 2 1");
        Checks.due("20 g turns, its square does not", 0, () -> x.why(0));
        Checks.due("20 g turns, its square too", 3, () -> x.why(1));
        Checks.due("20 cyclic 4 on cyclic 3", 0, () -> x.why(2));
        Checks.due("20 b on k of the image does nothing", 0, () -> x.why(3));
        Checks.due("20 the boundary of g on h is another one", 4, () -> x.why(4));
        Checks.due("21 these", 13, x::lawful);
        CrossedModules y = Checks.loaded("crossed;group s dihedral 3;group b cyclic 2"
                + ";module m s b 0 0 0 0 0 0;act m 1 0 1 2 4 5 3");
        Checks.due("20 the square of g turns the later elements alone", 3, () -> y.why(0));
    }

    private static void lookups() {
        CrossedModules x = Checks.loaded(LAWS);
        Checks.due("17 upper", 2, () -> x.groupOf(5, false));
        Checks.due("17 lower", 1, () -> x.groupOf(5, true));
        Checks.due("18 boundary", 1, () -> x.boundary(1, 2));
        Checks.due("18 the last boundary", 5, () -> x.boundary(4, 5));
        Checks.due("19 at rest", 3, () -> x.act(0, 1, 3));
        Checks.due("19 by an act line", 1, () -> x.act(2, 1, 3));
        Checks.due("19 another element of that line's module", 3, () -> x.act(2, 0, 3));
        Checks.due("19 the unit by an act line", 3, () -> x.act(3, 0, 1));
    }

    private static void kernelsAndImages() {
        CrossedModules x = Checks.loaded("crossed;group a cyclic 4;group b cyclic 2;group s dihedral 3;group q quaternion"
                + ";module l a b 0 1 0 1;module m s b 0 0 0 1 1 1;module n q a 3 0 1 2 0 2 2 2;module o q a 0 1 1 1 0 1 1 1"
                + ";module p s a 1 2 3 1 2 3;module r q b 0 0 0 0 0 0 0 0");
        int[] kernels = {5, 7, 18, 17, 0, 255};
        int[] images = {3, 3, 15, 3, 14, 1};
        int[] central = {1, 0, 0, 1, 1, 0};
        for (int k = 0; k < 6; k++) {
            int module = k;
            Checks.due("22 kernel " + k, kernels[k], () -> x.kernel(module));
            Checks.due("23 image " + k, images[k], () -> x.image(module));
            Checks.due("24 isCentral " + k, central[k], () -> Checks.bit(x.isCentral(module)));
        }
    }

    private static void fixedAndOrbits() {
        CrossedModules x = Checks.loaded("crossed;group a cyclic 4;group c cyclic 3"
                + ";module m c a 0 0 0;act m 1 0 2 1;act m 3 0 2 1;module n c a 0 0 0;act n 0 1 1 1;act n 2 2 1 0");
        int[][] due = {{0, 0, 15, 1}, {0, 1, 5, 6}, {0, 2, 5, 6}, {1, 0, 10, 7}, {1, 1, 15, 2}, {1, 2, 10, 7}};
        for (int[] d : due) {
            Checks.due("25 fixed " + d[0] + ", " + d[1], d[2], () -> x.fixed(d[0], d[1]));
            Checks.due("26 orbit " + d[0] + ", " + d[1], d[3], () -> x.orbit(d[0], d[1]));
        }
    }

    private static void refusals() {
        CrossedModules x = Checks.loaded("crossed;group a cyclic 4;group c cyclic 3;module m c a 0 0 0");
        int[] modules = {-1, 1, 6, Integer.MIN_VALUE, Integer.MAX_VALUE};
        for (int k : modules) {
            Checks.refused("17 module " + k, Checks.INDEX, () -> x.groupOf(k, true));
            Checks.refused("18 module " + k, Checks.INDEX, () -> x.boundary(k, 0));
            Checks.refused("19 module " + k, Checks.INDEX, () -> x.act(k, 0, 0));
            Checks.refused("20 module " + k, Checks.INDEX, () -> x.why(k));
            Checks.refused("22 module " + k, Checks.INDEX, () -> x.kernel(k));
            Checks.refused("23 module " + k, Checks.INDEX, () -> x.image(k));
            Checks.refused("24 module " + k, Checks.INDEX, () -> Checks.bit(x.isCentral(k)));
            Checks.refused("25 module " + k, Checks.INDEX, () -> x.fixed(k, 0));
            Checks.refused("26 module " + k, Checks.INDEX, () -> x.orbit(k, 0));
        }
        int[] elements = {-1, 3, 8, Integer.MIN_VALUE, Integer.MAX_VALUE};
        for (int h : elements) {
            Checks.refused("18 element " + h, Checks.INDEX, () -> x.boundary(0, h));
            Checks.refused("19 upper element " + h, Checks.INDEX, () -> x.act(0, 3, h));
            Checks.refused("19 lower element " + h, Checks.INDEX, () -> x.act(0, h == 3 ? 4 : h, 0));
            Checks.refused("25 element " + h, Checks.INDEX, () -> x.fixed(0, h));
            Checks.refused("26 element " + h, Checks.INDEX, () -> x.orbit(0, h));
        }
        CrossedModules none = new CrossedModules();
        Checks.refused("17 no text", Checks.STATE, () -> none.groupOf(-1, true));
        Checks.refused("18 no text", Checks.STATE, () -> none.boundary(-1, 0));
        Checks.refused("19 no text", Checks.STATE, () -> none.act(0, 0, 0));
        Checks.refused("20 no text", Checks.STATE, () -> none.why(0));
        Checks.refused("21 no text", Checks.STATE, none::lawful);
        Checks.refused("22 no text", Checks.STATE, () -> none.kernel(0));
        Checks.refused("23 no text", Checks.STATE, () -> none.image(9));
        Checks.refused("24 no text", Checks.STATE, () -> Checks.bit(none.isCentral(0)));
        Checks.refused("25 no text", Checks.STATE, () -> none.fixed(0, 0));
        Checks.refused("26 no text", Checks.STATE, () -> none.orbit(0, 0));
    }
}
