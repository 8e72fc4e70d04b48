/** Promises 48 to 61: accounts, texts, changes, undo, saved states (section 7). */
public final class ChangeTests {
    private static final String TEXT = "crossed;group a cyclic 4;group b cyclic 2;group s dihedral 3"
            + ";module mm a b 0 1 0 1;module n b b 0 0;module k s s 0 1 2 3 4 5;arrow f mm n 0 0 0 0 0 0";

    public static void main(String[] args) {
        accounts();
        modulesWritten();
        tablesWritten();
        textStays();
        boundariesSet();
        actionsSet();
        restAndConjugate();
        arrowsSet();
        undoing();
        savingAndRestoring();
        refusedCallsChangeNothing();
        refusals();
        Checks.finish("ChangeTests");
    }

    private static void accountsDue(String what, CrossedModules x, int changes, int broken, int mended) {
        Checks.due("48 changes, " + what, changes, () -> x.account(0));
        Checks.due("48 broken, " + what, broken, () -> x.account(1));
        Checks.due("48 mended, " + what, mended, () -> x.account(2));
    }

    private static void accounts() {
        CrossedModules x = Checks.loaded(TEXT);
        accountsDue("new", x, 0, 0, 0);
        x.setBoundary(0, 1, 1);
        accountsDue("nothing different", x, 1, 0, 0);
        x.setBoundary(0, 1, 0);
        accountsDue("broken", x, 2, 1, 0);
        x.setBoundary(0, 2, 1);
        accountsDue("still broken", x, 3, 1, 0);
        x.setBoundary(0, 2, 0);
        x.setBoundary(0, 1, 1);
        accountsDue("mended", x, 5, 1, 1);
        x.conjugate(2);
        accountsDue("another mended", x, 6, 1, 2);
        x.rest(2);
        accountsDue("it is broken again", x, 7, 2, 2);
        x.setTop(0, 0, 1);
        x.setBottom(0, 1, 1);
        accountsDue("arrows count as changes alone", x, 9, 2, 2);
        x.setAct(1, 0, 0, 1);
        accountsDue("by an action", x, 10, 3, 2);
        x.undo();
        accountsDue("undone", x, 9, 2, 2);
        Checks.refused("48 what 3", Checks.ARGUMENT, () -> x.account(3));
        Checks.refused("48 what -1", Checks.ARGUMENT, () -> x.account(-1));
    }

    private static void writes(String want, CrossedModules x, int module) {
        Checks.due("49 " + want, want.length(), () -> x.writeModule(module));
        Checks.judge("49 the text", want, Checks.written(x, want.length()));
        Checks.refused("51 behind the text", Checks.INDEX, () -> x.textByte(want.length()));
    }

    private static void modulesWritten() {
        CrossedModules x = Checks.loaded(TEXT);
        writes("mm:0,1,0,1", x, 0);
        writes("k:0,1,2,3,4,5;4", x, 2);
        writes("n:0,0", x, 1);
        x.setBoundary(1, 1, 1);
        x.setAct(0, 1, 1, 3);
        writes("n:0,1", x, 1);
        writes("mm:0,1,0,1;2", x, 0);
        CrossedModules y = Checks.loaded("crossed;group t cyclic 1;group h cyclic 8;module abcdefghij t t 0"
                + ";module jihgfedcba h h 7 0 7 7 7 7 7 7");
        writes("abcdefghij:0", y, 0);
        writes("jihgfedcba:7,0,7,7,7,7,7,7;1", y, 1);
    }

    private static void tablesWritten() {
        CrossedModules x = Checks.loaded("crossed;group b cyclic 2;group v product b b;group t cyclic 1;group q quaternion");
        String[] due = {"01/10", "0123/1032/2301/3210", "0",
            "01234567/14365072/27416305/32547610/45670123/50721436/63052741/76103254"};
        for (int k = 0; k < due.length; k++) {
            int group = k;
            String want = due[k];
            Checks.due("50 table " + k, want.length(), () -> x.writeTable(group));
            Checks.judge("50 the text", want, Checks.written(x, want.length()));
            Checks.refused("51 behind the table", Checks.INDEX, () -> x.textByte(want.length()));
        }
    }

    private static void textStays() {
        CrossedModules x = Checks.loaded(TEXT);
        Checks.refused("51 no text yet", Checks.INDEX, () -> x.textByte(0));
        x.writeModule(0);
        x.save(0);
        Checks.refused("51 i -1", Checks.INDEX, () -> x.textByte(-1));
        Checks.refused("51 i far above", Checks.INDEX, () -> x.textByte(Integer.MAX_VALUE));
        x.setBoundary(0, 3, 0);
        x.undo();
        x.restore(0);
        Checks.load(x, "crossed");
        Checks.judge("51 the text stays", "mm:0,1,0,1", Checks.written(x, 10));
        Checks.refused("49 no module now", Checks.INDEX, () -> x.writeModule(0));
        Checks.refused("50 no group now", Checks.INDEX, () -> x.writeTable(0));
        Checks.judge("51 it stays behind these", "mm:0,1,0,1", Checks.written(x, 10));
        Checks.refused("51 and is no longer", Checks.INDEX, () -> x.textByte(10));
    }

    private static void boundariesSet() {
        CrossedModules x = Checks.loaded(TEXT);
        Checks.due("52 the previous one", 1, () -> x.setBoundary(0, 3, 0));
        Checks.due("52 set", 0, () -> x.boundary(0, 3));
        Checks.due("52 no other one", 1, () -> x.boundary(0, 1));
        Checks.due("52 the same again", 0, () -> x.setBoundary(0, 3, 0));
        Checks.due("52 a change each time", 2, x::undoable);
        Checks.due("52 another module", 5, () -> x.setBoundary(2, 5, 4));
        Checks.due("52 the first element", 0, () -> x.setBoundary(2, 0, 5));
        Checks.refused("52 h 4", Checks.INDEX, () -> x.setBoundary(0, 4, 0));
        Checks.refused("52 h -1", Checks.INDEX, () -> x.setBoundary(0, -1, 0));
        Checks.refused("52 g 2", Checks.INDEX, () -> x.setBoundary(0, 0, 2));
        Checks.refused("52 g -1", Checks.INDEX, () -> x.setBoundary(0, 0, -1));
        Checks.due("52 no more changes", 4, x::undoable);
    }

    private static void actionsSet() {
        CrossedModules x = Checks.loaded(TEXT);
        Checks.due("53 the previous one", 3, () -> x.setAct(0, 1, 3, 1));
        Checks.due("53 set", 1, () -> x.act(0, 1, 3));
        Checks.due("53 no other one", 3, () -> x.act(0, 0, 3));
        Checks.due("53 the previous one now", 1, () -> x.setAct(0, 1, 3, 0));
        Checks.due("53 the last one", 5, () -> x.setAct(2, 5, 5, 5));
        Checks.refused("53 g 2", Checks.INDEX, () -> x.setAct(0, 2, 0, 0));
        Checks.refused("53 g -1", Checks.INDEX, () -> x.setAct(0, -1, 0, 0));
        Checks.refused("53 h 4", Checks.INDEX, () -> x.setAct(0, 0, 4, 0));
        Checks.refused("53 h -1", Checks.INDEX, () -> x.setAct(0, 0, -1, 0));
        Checks.refused("53 to 4", Checks.INDEX, () -> x.setAct(0, 0, 0, 4));
        Checks.refused("53 to -1", Checks.INDEX, () -> x.setAct(0, 0, 0, -1));
        Checks.due("53 no more changes", 3, x::undoable);
    }

    private static void restAndConjugate() {
        CrossedModules x = Checks.loaded(TEXT);
        Checks.due("54 nothing different", 0, () -> x.rest(0));
        Checks.due("54 a change all the same", 1, () -> x.account(0));
        x.setAct(0, 1, 3, 1);
        x.setAct(0, 0, 0, 2);
        Checks.due("54 two others", 2, () -> x.rest(0));
        Checks.due("54 at rest", 3, () -> x.act(0, 1, 3));
        Checks.due("55 eighteen others", 18, () -> x.conjugate(2));
        Checks.due("55 3 on 1", 2, () -> x.act(2, 3, 1));
        Checks.due("55 1 on 3", 5, () -> x.act(2, 1, 3));
        Checks.due("55 none now", 0, () -> x.conjugate(2));
        Checks.due("54 eighteen others", 18, () -> x.rest(2));
        Checks.due("55 of the same abelian group", 0, () -> x.conjugate(1));
        Checks.refused("55 two groups", Checks.ARGUMENT, () -> x.conjugate(0));
        CrossedModules y = Checks.loaded("crossed;group b cyclic 2;group c cyclic 2;module m b c 0 1");
        Checks.refused("55 two groups with the same products", Checks.ARGUMENT, () -> y.conjugate(0));
        Checks.due("55 no change", 0, y::undoable);
    }

    private static void arrowsSet() {
        CrossedModules x = Checks.loaded(TEXT);
        Checks.due("56 the previous top", 0, () -> x.setTop(0, 3, 1));
        Checks.due("56 set", 1, () -> x.top(0, 3));
        Checks.due("56 the previous top now", 1, () -> x.setTop(0, 3, 1));
        Checks.due("57 the previous bottom", 0, () -> x.setBottom(0, 1, 1));
        Checks.due("57 set", 1, () -> x.bottom(0, 1));
        Checks.due("57 the other one", 0, () -> x.bottom(0, 0));
        Checks.refused("56 h 4", Checks.INDEX, () -> x.setTop(0, 4, 0));
        Checks.refused("56 h -1", Checks.INDEX, () -> x.setTop(0, -1, 0));
        Checks.refused("56 to 2", Checks.INDEX, () -> x.setTop(0, 0, 2));
        Checks.refused("56 to -1", Checks.INDEX, () -> x.setTop(0, 0, -1));
        Checks.refused("57 g 2", Checks.INDEX, () -> x.setBottom(0, 2, 0));
        Checks.refused("57 g -1", Checks.INDEX, () -> x.setBottom(0, -1, 0));
        Checks.refused("57 to 2", Checks.INDEX, () -> x.setBottom(0, 0, 2));
        Checks.refused("57 to -1", Checks.INDEX, () -> x.setBottom(0, 0, -1));
        Checks.due("56 and 57 no more changes", 3, x::undoable);
    }

    private static void undoing() {
        CrossedModules x = Checks.loaded(TEXT);
        Checks.refused("58 nothing yet", Checks.STATE, x::undo);
        x.setBoundary(0, 1, 0);
        x.setAct(0, 1, 2, 0);
        x.rest(0);
        x.conjugate(2);
        x.setTop(0, 0, 1);
        x.setBottom(0, 0, 1);
        Checks.due("59 six", 6, x::undoable);
        Checks.due("58 bottom", 5, x::undo);
        Checks.due("58 bottom is back", 0, () -> x.bottom(0, 0));
        Checks.due("58 top is not yet", 1, () -> x.top(0, 0));
        Checks.due("58 top", 4, x::undo);
        Checks.due("58 top is back", 0, () -> x.top(0, 0));
        Checks.due("58 conjugate", 3, x::undo);
        Checks.due("58 reason 4 is back", 4, () -> x.why(2));
        Checks.due("58 rest", 2, x::undo);
        Checks.due("58 the action is back", 0, () -> x.act(0, 1, 2));
        Checks.due("58 setAct", 1, x::undo);
        Checks.due("58 setBoundary", 0, x::undo);
        Checks.due("58 lawful again", 0, () -> x.why(0));
        accountsDue("all undone", x, 0, 0, 0);
        Checks.refused("58 no more", Checks.STATE, x::undo);
        for (int i = 0; i < 11; i++) {
            int due = Math.min(8, i + 1);
            x.setBoundary(2, 0, i % 6);
            Checks.due("59 at most eight", due, x::undoable);
        }
        Checks.due("58 two back", 6, () -> x.undo() + x.undo() - 7);
        Checks.due("58 the value of that time", 2, () -> x.boundary(2, 0));
        x.setBoundary(2, 1, 5);
        Checks.due("59 one more", 7, x::undoable);
        for (int i = 6; i >= 0; i--) {
            int due = i;
            Checks.due("58 down to none", due, x::undo);
        }
        Checks.due("58 the oldest kept", 2, () -> x.boundary(2, 0));
        accountsDue("as they were then", x, 3, 0, 0);
        Checks.refused("58 the older ones are gone", Checks.STATE, x::undo);
    }

    private static void savingAndRestoring() {
        CrossedModules x = Checks.loaded(TEXT);
        Checks.refused("61 nothing saved", Checks.STATE, () -> x.restore(0));
        Checks.due("60 two lawful ones", 2, () -> x.save(1));
        x.conjugate(2);
        x.setTop(0, 2, 1);
        x.setBottom(0, 1, 1);
        Checks.due("60 three lawful ones", 3, () -> x.save(0));
        Checks.due("60 changes can still be undone", 3, x::undoable);
        Checks.due("61 the first state", 2, () -> x.restore(1));
        Checks.due("61 nothing can be undone", 0, x::undoable);
        Checks.refused("61 undo", Checks.STATE, x::undo);
        Checks.due("61 module", 4, () -> x.why(2));
        Checks.due("61 top", 0, () -> x.top(0, 2));
        Checks.due("61 bottom", 0, () -> x.bottom(0, 1));
        accountsDue("restored", x, 0, 0, 0);
        x.setBoundary(1, 0, 1);
        Checks.due("61 the other state", 3, () -> x.restore(0));
        Checks.due("61 module of that", 0, () -> x.why(2));
        Checks.due("61 boundary of that", 0, () -> x.boundary(1, 0));
        Checks.due("61 top of that", 1, () -> x.top(0, 2));
        Checks.due("61 bottom of that", 1, () -> x.bottom(0, 1));
        accountsDue("restored", x, 3, 0, 1);
        Checks.due("61 it stays saved", 3, () -> x.restore(0));
        x.setBoundary(0, 1, 0);
        Checks.due("60 in place of what was saved", 2, () -> x.save(0));
        x.undo();
        Checks.due("61 the later one", 2, () -> x.restore(0));
        Checks.due("61 its boundary", 0, () -> x.boundary(0, 1));
        Checks.refused("60 slot 2", Checks.INDEX, () -> x.save(2));
        Checks.refused("60 slot -1", Checks.INDEX, () -> x.save(-1));
        Checks.refused("61 slot 2", Checks.INDEX, () -> x.restore(2));
        Checks.refused("61 slot -1", Checks.INDEX, () -> x.restore(-1));
        Checks.refused("61 slot 32", Checks.INDEX, () -> x.restore(32));
    }

    private static void refusedCallsChangeNothing() {
        CrossedModules x = Checks.loaded(TEXT);
        x.setBoundary(0, 1, 0);
        x.writeModule(1);
        Checks.feed(x, "crossed");
        Checks.refused("7 setBoundary", Checks.INDEX, () -> x.setBoundary(0, 1, 7));
        Checks.refused("7 conjugate", Checks.ARGUMENT, () -> x.conjugate(0));
        Checks.refused("7 rest", Checks.INDEX, () -> x.rest(3));
        Checks.refused("7 load", Checks.INDEX, () -> x.load(21));
        Checks.refused("7 restore", Checks.STATE, () -> x.restore(0));
        Checks.refused("7 writeModule", Checks.INDEX, () -> x.writeModule(3));
        accountsDue("behind refused calls", x, 1, 1, 0);
        Checks.due("7 buffered", 20, x::buffered);
        Checks.due("7 undoable", 1, x::undoable);
        Checks.judge("7 the text", "n:0,0", Checks.written(x, 5));
    }

    private static void refusals() {
        CrossedModules x = Checks.loaded(TEXT);
        CrossedModules none = new CrossedModules();
        int[] numbers = {-1, 3, Integer.MIN_VALUE, Integer.MAX_VALUE};
        for (int k : numbers) {
            everyCall("no such thing", x, k, Checks.INDEX);
        }
        everyCall("no text", none, 0, Checks.STATE);
        everyCall("no text and no such thing", none, -1, Checks.STATE);
        Checks.refused("48 no text", Checks.STATE, () -> none.account(9));
        Checks.refused("58 no text", Checks.STATE, none::undo);
        Checks.due("59 no text", 0, none::undoable);
        Checks.refused("60 no text", Checks.STATE, () -> none.save(7));
        Checks.refused("61 no text, no slot", Checks.INDEX, () -> none.restore(7));
        Checks.refused("61 no text", Checks.STATE, () -> none.restore(1));
    }

    private static void everyCall(String what, CrossedModules x, int k, Class<? extends RuntimeException> e) {
        Checks.refused("49 " + what, e, () -> x.writeModule(k));
        Checks.refused("50 " + what, e, () -> x.writeTable(k));
        Checks.refused("52 " + what, e, () -> x.setBoundary(k, 0, 0));
        Checks.refused("53 " + what, e, () -> x.setAct(k, 0, 0, 0));
        Checks.refused("54 " + what, e, () -> x.rest(k));
        Checks.refused("55 " + what, e, () -> x.conjugate(k));
        Checks.refused("56 " + what, e, () -> x.setTop(k, 0, 0));
        Checks.refused("57 " + what, e, () -> x.setBottom(k, 0, 0));
    }
}
