/** Promises 29 and 30: save, restore. */
public final class SlotsTest {
    public static void main(String[] args) {
        saveAndRestore();
        theWholeStateComesBack();
        restoreForgets();
        aSlotKeepsItsState();
        wrongSlots();
        Check.end("SlotsTest");
    }

    private static void saveAndRestore() {
        BoilerCascade x = new BoilerCascade();
        Check.badState("restore(0) of nothing", () -> x.restore(0));
        Check.badState("restore(1) of nothing", () -> x.restore(1));
        Check.due("save(0) tells the clock", x.save(0), 0);
        x.tick(5, 0);
        Check.due("save(1) tells the clock", x.save(1), 5);
        x.tick(7, 2);
        Check.due("restore(0)", x.restore(0), 0);
        Check.due("the clock", x.about(8), 0);
        Check.due("restore(1)", x.restore(1), 5);
        Check.due("the clock", x.about(8), 5);
        x.tick(1, 0);
        Check.due("save(1) again", x.save(1), 6);
        Check.due("restore(0)", x.restore(0), 0);
        Check.due("restore(1)", x.restore(1), 6);
        BoilerCascade y = new BoilerCascade();
        y.save(1);
        Check.badState("restore(0) when only 1 is saved", () -> y.restore(0));
    }

    private static void theWholeStateComesBack() {
        BoilerCascade x = Check.loaded("H83040b100b201b300b151b050t0510152025303540");
        x.set(2, 1);
        x.tick(30, 1);
        x.draw(2);
        x.lock(2);
        x.setFlue(1, false);
        x.tick(1, 0);
        String before = Check.picture(x);
        x.save(0);
        for (int what = 0; what <= 5; what++) {
            x.set(what, new int[] {80, 9, 5, 61, 9, 8}[what]);
        }
        x.unlock(2);
        x.setFlue(1, true);
        x.setFlue(0, false);
        x.setDraft(0, 99);
        x.setDraft(1, 98);
        x.tick(50, 2);
        Check.due("restore(0)", x.restore(0), 31);
        Check.due("everything is back", Check.picture(x), before);
    }

    private static void restoreForgets() {
        BoilerCascade x = new BoilerCascade();
        x.tick(1, 0);
        x.tick(1, 0);
        x.save(0);
        Check.due("save forgets nothing", x.undo(), 1);
        x.restore(0);
        Check.badState("undo() after restore", () -> x.undo());
        Check.due("the clock", x.about(8), 2);
        x.draw(1);
        Check.due("undo() of what came after it", x.undo(), 0);
        x.append('H');
        x.restore(0);
        Check.due("restore leaves the text", x.clearText(), 1);
        x.tick(1, 0);
        Check.badState("restore(1) of nothing", () -> x.restore(1));
        Check.due("it forgot nothing", x.undo(), 0);
    }

    private static void aSlotKeepsItsState() {
        BoilerCascade x = new BoilerCascade();
        x.tick(3, 0);
        x.save(0);
        String saved = Check.picture(x);
        for (int k = 0; k < 3; k++) {
            Check.due("restore(0)", x.restore(0), 3);
            Check.due("as it was saved", Check.picture(x), saved);
            x.tick(10, 1);
            x.lock(0);
            x.set(0, 50);
        }
        x.undo();
        x.undo();
        x.undo();
        Check.due("undo does not touch the slot", x.restore(0), 3);
        Check.due("as it was saved", Check.picture(x), saved);
    }

    private static void wrongSlots() {
        BoilerCascade x = new BoilerCascade();
        for (int slot : new int[] {-1, 2, Integer.MIN_VALUE, Integer.MAX_VALUE}) {
            Check.outOfBounds("save(" + slot + ")", () -> x.save(slot));
            Check.outOfBounds("restore(" + slot + ")", () -> x.restore(slot));
        }
        Check.badState("restore(0)", () -> x.restore(0));
        Check.badState("restore(1)", () -> x.restore(1));
    }
}
