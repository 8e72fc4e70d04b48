/** Promises 39 to 47: arrows and ladders (section 5). */
public final class ArrowTests {
    private static final String HEAD = "crossed;group a cyclic 4;group b cyclic 2;group t cyclic 1;group v product b b"
            + ";module m a b 0 1 0 1;module n b b 0 0;module o b t 0 0;module z a b 0 1 1 1";
    private static final String REASONS = HEAD + ";arrow ga m z 0 1 2 3 0 1;arrow gb z m 0 0 0 0 0 0"
            + ";arrow gc m m 0 0 1 0 0 0;arrow gd m n 0 0 0 0 1 0;arrow ge m n 0 1 0 1 0 1;arrow gf n n 0 1 0 0"
            + ";arrow gg n m 0 2 0 1;arrow gh o m 0 2 0";

    public static void main(String[] args) {
        ends();
        reasons();
        actionReason();
        equivalences();
        ladders();
        laddersFollowChanges();
        throughTwo();
        refusals();
        Checks.finish("ArrowTests");
    }

    private static void ends() {
        CrossedModules x = Checks.loaded(REASONS);
        Checks.due("39 from", 2, () -> x.end(7, false));
        Checks.due("39 to", 0, () -> x.end(7, true));
        Checks.due("40 top", 3, () -> x.top(0, 3));
        Checks.due("40 top to fewer", 1, () -> x.top(4, 3));
        Checks.due("41 bottom", 1, () -> x.bottom(3, 0));
        Checks.due("41 the last bottom", 1, () -> x.bottom(6, 1));
        Checks.refused("40 h 2", Checks.INDEX, () -> x.top(7, 2));
        Checks.refused("40 h -1", Checks.INDEX, () -> x.top(7, -1));
        Checks.refused("41 g 1", Checks.INDEX, () -> x.bottom(7, 1));
        Checks.refused("41 g -1", Checks.INDEX, () -> x.bottom(7, -1));
    }

    private static void reasons() {
        CrossedModules x = Checks.loaded(REASONS);
        int[] due = {1, 1, 2, 3, 4, 0, 0, 0};
        for (int k = 0; k < due.length; k++) {
            int arrow = k;
            Checks.due("42 arrowWhy " + k, due[k], () -> x.arrowWhy(arrow));
        }
    }

    private static void actionReason() {
        CrossedModules x = Checks.loaded("crossed;group a cyclic 4;group b cyclic 2;module m a b 0 0 0 0"
                + ";module n a b 0 0 0 0;act n 1 0 3 2 1;arrow f m n 0 1 2 3 0 1;arrow g m n 0 1 2 3 0 0"
                + ";arrow h n n 0 3 2 1 0 1;arrow i m n 0 2 0 2 0 1");
        int[] due = {5, 0, 0, 0};
        int[] equal = {0, 0, 1, 0};
        for (int k = 0; k < due.length; k++) {
            int arrow = k;
            Checks.due("42 arrowWhy " + k, due[k], () -> x.arrowWhy(arrow));
            Checks.due("43 isEquivalence " + k, equal[k], () -> Checks.bit(x.isEquivalence(arrow)));
        }
        Checks.due("44 equivalences", 4, x::equivalences);
        CrossedModules y = Checks.loaded("crossed;group c cyclic 3;group s dihedral 3;group t cyclic 1"
                + ";module m c s 0 0 0;act m 3 0 2 1;act m 4 0 2 1;act m 5 0 2 1;module n c t 0 0 0"
                + ";arrow f m n 0 1 2 0 0 0 0 0 0");
        Checks.due("42 the later lower elements alone are not kept", 5, () -> y.arrowWhy(0));
    }

    /** Each arrow but the first lacks one thing that an equivalence has. */
    private static void equivalences() {
        CrossedModules x = Checks.loaded("crossed;group a cyclic 4;group b cyclic 2;group t cyclic 1"
                + ";module m b t 0 0;module n a b 0 1 0 1;module o t b 0;module p a t 0 0 0 0;module q b a 0 2"
                + ";module r t t 0"
                + ";arrow w m n 0 2 0;arrow x m m 0 0 0;arrow y m p 0 2 0;arrow z o o 0 0 0;arrow v r o 0 0"
                + ";arrow u q o 0 0 0 1 0 1;arrow s o q 0 0 2;arrow k q r 0 0 0 0 0 0");
        int[] why = {0, 0, 0, 0, 0, 0, 0, 0};
        int[] due = {1, 0, 0, 0, 0, 1, 0, 0};
        for (int k = 0; k < due.length; k++) {
            int arrow = k;
            Checks.due("42 arrowWhy " + k, why[k], () -> x.arrowWhy(arrow));
            Checks.due("43 isEquivalence " + k, due[k], () -> Checks.bit(x.isEquivalence(arrow)));
        }
        Checks.due("44 equivalences", 33, x::equivalences);
        Checks.due("44 no arrows", 0, Checks.loaded("crossed")::equivalences);
        x.setBoundary(4, 1, 1);
        Checks.due("43 a broken arrow is none", 0, () -> Checks.bit(x.isEquivalence(5)));
        Checks.due("44 one is left", 1, x::equivalences);
        CrossedModules y = Checks.loaded("crossed;group a cyclic 4;group b cyclic 2;group t cyclic 1"
                + ";module m a b 0 1 0 1;module o b t 0 0;arrow f m o 0 1 0 1 0 0");
        Checks.due("42 a smaller upper group", 0, () -> y.arrowWhy(0));
        Checks.due("43 a later element of the kernel has the top of the unit", 0, () -> Checks.bit(y.isEquivalence(0)));
    }

    /** Modules 0 to 4 in a row with arrows both ways round, 5 apart; arrow 0 closes a ring of 0, 1 and 2. */
    private static void ladders() {
        CrossedModules x = Checks.loaded("crossed;group t cyclic 1;group b cyclic 2"
                + ";module a t t 0;module b t t 0;module c t t 0;module d t t 0;module e t t 0;module f b t 0 0"
                + ";arrow a a b 0 0;arrow b c b 0 0;arrow c d c 0 0;arrow d d e 0 0;arrow e e f 0 0;arrow f f a 0 0 0"
                + ";arrow g c c 0 0;arrow h a b 0 0");
        Checks.due("44 equivalences", 207, x::equivalences);
        int[][] due = {{0, 1, 2, 3, 4, -1}, {1, 0, 1, 2, 3, -1}, {2, 1, 0, 1, 2, -1}, {3, 2, 1, 0, 1, -1},
            {4, 3, 2, 1, 0, -1}, {-1, -1, -1, -1, -1, 0}};
        for (int k = 0; k < 6; k++) {
            int module = k;
            for (int j = 0; j < 6; j++) {
                int other = j;
                Checks.due("45 ladder " + k + ", " + j, due[k][j], () -> x.ladder(module, other));
            }
            Checks.due("46 joined " + k, k < 5 ? 31 : 32, () -> x.joined(module));
        }
        CrossedModules y = Checks.loaded("crossed;group t cyclic 1"
                + ";module a t t 0;module b t t 0;module c t t 0;module d t t 0;module e t t 0;module f t t 0"
                + ";arrow a f e 0 0;arrow b e d 0 0;arrow c d c 0 0;arrow d c b 0 0;arrow e b a 0 0");
        Checks.due("45 the longest one", 5, () -> y.ladder(0, 5));
        Checks.due("45 backwards", 5, () -> y.ladder(5, 0));
        Checks.due("46 all of them", 63, () -> y.joined(3));
    }

    private static void laddersFollowChanges() {
        CrossedModules x = Checks.loaded("crossed;group b cyclic 2;group t cyclic 1;module a b t 0 0;module b b t 0 0"
                + ";module c b b 0 1;arrow a a b 0 1 0;arrow b b c 0 0 0");
        Checks.due("45 joined", 1, () -> x.ladder(1, 0));
        x.setTop(0, 1, 0);
        Checks.due("45 not joined", -1, () -> x.ladder(1, 0));
        Checks.due("46 not joined", 2, () -> x.joined(1));
        x.undo();
        Checks.due("45 joined again", 1, () -> x.ladder(0, 1));
        x.setBoundary(2, 0, 1);
        Checks.due("45 the same broken module", 0, () -> x.ladder(2, 2));
        Checks.due("46 a broken module alone", 4, () -> x.joined(2));
    }

    private static void throughTwo() {
        CrossedModules x = Checks.loaded(REASONS);
        Checks.due("47 o to m to n", 0, () -> x.through(7, 4, 1));
        Checks.due("47 m to m to z", 1, () -> x.through(2, 0, 2));
        Checks.due("47 an arrow and itself", 1, () -> x.through(5, 5, 1));
        Checks.due("47 m to n to m", 2, () -> x.through(4, 6, 3));
        Checks.refused("47 not in a row", Checks.ARGUMENT, () -> x.through(4, 0, 3));
        Checks.refused("47 the other way round", Checks.ARGUMENT, () -> x.through(4, 7, 0));
        Checks.refused("47 no such element, not in a row", Checks.INDEX, () -> x.through(4, 0, 4));
        Checks.refused("47 element -1", Checks.INDEX, () -> x.through(5, 5, -1));
        Checks.refused("47 no such next", Checks.INDEX, () -> x.through(4, 8, 0));
        Checks.refused("47 next -1", Checks.INDEX, () -> x.through(4, -1, 0));
        Checks.refused("47 no such arrow", Checks.INDEX, () -> x.through(8, 0, 0));
    }

    private static void refusals() {
        CrossedModules x = Checks.loaded(HEAD + ";arrow f n n 0 1 0 0");
        CrossedModules none = new CrossedModules();
        int[] numbers = {-1, 4, 8, Integer.MIN_VALUE, Integer.MAX_VALUE};
        for (int k : numbers) {
            everyCall("no such arrow", x, k, Checks.INDEX);
            Checks.refused("45 module " + k, Checks.INDEX, () -> x.ladder(k, 0));
            Checks.refused("45 other " + k, Checks.INDEX, () -> x.ladder(0, k));
            Checks.refused("45 both " + k, Checks.INDEX, () -> x.ladder(k, k));
            Checks.refused("46 module " + k, Checks.INDEX, () -> x.joined(k));
        }
        everyCall("no text", none, 0, Checks.STATE);
        everyCall("no text and no arrow", none, -1, Checks.STATE);
        Checks.refused("44 no text", Checks.STATE, none::equivalences);
        Checks.refused("45 no text", Checks.STATE, () -> none.ladder(0, 0));
        Checks.refused("46 no text", Checks.STATE, () -> none.joined(0));
        Checks.refused("46 no text and no module", Checks.STATE, () -> none.joined(-1));
    }

    private static void everyCall(String what, CrossedModules x, int k, Class<? extends RuntimeException> e) {
        Checks.refused("39 " + what, e, () -> x.end(k, true));
        Checks.refused("40 " + what, e, () -> x.top(k, 0));
        Checks.refused("41 " + what, e, () -> x.bottom(k, 0));
        Checks.refused("42 " + what, e, () -> x.arrowWhy(k));
        Checks.refused("43 " + what, e, () -> Checks.bit(x.isEquivalence(k)));
        Checks.refused("47 " + what, e, () -> x.through(k, 0, 0));
    }
}
