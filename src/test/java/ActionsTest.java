/** Promises 12 to 19: draw, set, setFlue, setDraft, lock, unlock, putOff, undo. */
public final class ActionsTest {
    private static final int OFF = 0;
    private static final int PURGING = 1;
    private static final int FIRING = 2;
    private static final int STANDBY = 3;
    private static final int LOCKED = 4;

    public static void main(String[] args) {
        draw();
        set();
        setKeepsAKill();
        setFlue();
        setDraft();
        lockAndUnlock();
        putOff();
        undoOfEachAction();
        undoTakesBackFourteen();
        undoWhatChangedNothing();
        whatIsNoAction();
        callsThatThrowChangeNothing();
        Check.end("ActionsTest");
    }

    /** Boilers 0 to 4: purging, firing, on standby, locked, off; 0, 2 and 4 are at flue 0. */
    private static BoilerCascade inEachState() {
        BoilerCascade x = Check.loaded("H29999b010b021b030b041b050t5050");
        x.set(5, 23);
        x.set(0, 80);
        x.set(2, 1);
        x.lock(3);
        x.lock(4);
        x.lock(0);
        x.lock(1);
        x.tick(2, 0);
        x.set(0, 40);
        x.tick(1, 0);
        x.setDraft(0, 0);
        x.unlock(1);
        x.set(0, 80);
        x.tick(1, 0);
        x.setDraft(0, 1);
        x.unlock(0);
        x.set(2, 5);
        x.tick(1, 0);
        x.unlock(4);
        int[] due = {PURGING, FIRING, STANDBY, LOCKED, OFF};
        for (int i = 0; i < 5; i++) {
            Check.due("prepared boiler(" + i + ", 2)", x.boiler(i, 2), due[i]);
        }
        return x;
    }

    private static void draw() {
        BoilerCascade x = Check.loaded("H35050b100t102030");
        Check.due("draw(1)", x.draw(1), 30);
        Check.due("layers", Check.layers(x), "10 10 20");
        Check.due("draw(2)", x.draw(2), 30);
        Check.due("layers", Check.layers(x), "10 10 10");
        Check.due("cold", x.account(1), 30);
        Check.due("delivered", x.account(2), 60);
        Check.due("draws", x.account(5), 3);
        Check.due("the clock stands", x.about(8), 0);
        Check.due("draw(20)", x.draw(20), 200);
        Check.badArgument("draw(0)", () -> x.draw(0));
        Check.badArgument("draw(21)", () -> x.draw(21));
        Check.badArgument("draw(-1)", () -> x.draw(-1));
        Check.badArgument("draw(greatest int)", () -> x.draw(Integer.MAX_VALUE));
        Check.due("draws", x.account(5), 23);
        Check.due("undo()", x.undo(), 2);
        Check.due("draws", x.account(5), 3);
    }

    private static void set() {
        BoilerCascade x = new BoilerCascade();
        int[] least = {40, 1, 1, 60, 1, 0};
        int[] most = {80, 9, 5, 90, 9, 23};
        int[] first = {60, 3, 2, 70, 2, 2};
        for (int k = 0; k <= 5; k++) {
            int what = k;
            Check.due("set to the least", x.set(what, least[what]), first[what]);
            Check.due("setting " + what, x.about(what), least[what]);
            Check.due("set to the most", x.set(what, most[what]), least[what]);
            Check.badArgument("set below the least", () -> x.set(what, least[what] - 1));
            Check.badArgument("set above the most", () -> x.set(what, most[what] + 1));
            Check.badArgument("set far below", () -> x.set(what, Integer.MIN_VALUE));
            Check.badArgument("set far above", () -> x.set(what, Integer.MAX_VALUE));
            Check.due("setting " + what + " stays", x.about(what), most[what]);
        }
        Check.badArgument("set(-1, 60)", () -> x.set(-1, 60));
        Check.badArgument("set(6, 5)", () -> x.set(6, 5));
        Check.badArgument("set(least int, 5)", () -> x.set(Integer.MIN_VALUE, 5));
        Check.badArgument("set(greatest int, 5)", () -> x.set(Integer.MAX_VALUE, 5));
        for (int what = 0; what <= 5; what++) {
            Check.due("the others stay", x.about(what), most[what]);
        }
        BoilerCascade y = new BoilerCascade();
        y.tick(1, 0);
        y.set(2, 5);
        Check.due("who purges keeps the ticks left", y.boiler(0, 3), 1);
    }

    private static void setKeepsAKill() {
        BoilerCascade x = Check.loaded("H20000b010t9090");
        x.set(4, 9);
        x.set(5, 0);
        x.tick(2, 0);
        for (int what = 0; what <= 5; what++) {
            x.set(what, x.about(what) == 60 ? 61 : 5 * (what == 0 ? 10 : what == 3 ? 16 : 1));
        }
        Check.due("it goes on", x.about(11), 1);
        Check.due("its run", x.about(12), 2);
        Check.due("its ticks", x.about(13), 2);
        x.set(4, 1);
        Check.due("a smaller hold ends it only in a tick", x.about(11), 1);
    }

    private static void setFlue() {
        BoilerCascade x = inEachState();
        Check.due("shut flue 0: two went off", x.setFlue(0, false), 2);
        int[] due = {OFF, FIRING, OFF, LOCKED, OFF};
        for (int i = 0; i < 5; i++) {
            Check.due("boiler(" + i + ", 2)", x.boiler(i, 2), due[i]);
        }
        Check.due("no ticks of the purge are left", x.boiler(0, 3), 0);
        Check.due("the counts stay", x.boiler(2, 4), 1);
        Check.due("shut", x.flue(0, 2), 0);
        Check.due("the other is open", x.flue(1, 2), 1);
        Check.due("shut it again", x.setFlue(0, false), 0);
        Check.due("open it", x.setFlue(0, true), 0);
        Check.due("open", x.flue(0, 2), 1);
        Check.due("open it again", x.setFlue(0, true), 0);
        Check.due("nobody starts by this", x.boiler(0, 2), OFF);
        Check.due("open flue 1 that is open", x.setFlue(1, true), 0);
        Check.due("it fires on", x.boiler(1, 2), FIRING);
        Check.due("shut flue 1", x.setFlue(1, false), 1);
        Check.due("a locked one stays locked", x.boiler(3, 2), LOCKED);
        for (int f : new int[] {-1, 2, Integer.MIN_VALUE, Integer.MAX_VALUE}) {
            Check.outOfBounds("setFlue(" + f + ", true)", () -> x.setFlue(f, true));
            Check.outOfBounds("setFlue(" + f + ", false)", () -> x.setFlue(f, false));
        }
        x.tick(1, 0);
        Check.due("a purge after it begins anew", x.boiler(0, 2) == PURGING || x.boiler(4, 2) == PURGING ? 1 : 0, 1);
    }

    private static void setDraft() {
        BoilerCascade x = inEachState();
        Check.due("setDraft(0, 0)", x.setDraft(0, 0), 1);
        Check.due("setDraft(0, 99)", x.setDraft(0, 99), 0);
        Check.due("setDraft(1, 0)", x.setDraft(1, 0), 99);
        Check.due("draft 0", x.flue(0, 0), 99);
        Check.due("draft 1", x.flue(1, 0), 0);
        Check.due("what purges goes on", x.boiler(0, 2), PURGING);
        Check.due("what fires goes on", x.boiler(1, 2), FIRING);
        Check.due("what is on standby stays", x.boiler(2, 2), STANDBY);
        x.tick(1, 0);
        Check.due("what fires goes on behind a tick", x.boiler(1, 2), FIRING);
        Check.badArgument("setDraft(0, -1)", () -> x.setDraft(0, -1));
        Check.badArgument("setDraft(1, 100)", () -> x.setDraft(1, 100));
        Check.badArgument("setDraft(1, greatest int)", () -> x.setDraft(1, Integer.MAX_VALUE));
        for (int f : new int[] {-1, 2, Integer.MIN_VALUE, Integer.MAX_VALUE}) {
            Check.outOfBounds("setDraft(" + f + ", 50)", () -> x.setDraft(f, 50));
            Check.outOfBounds("setDraft(" + f + ", 100)", () -> x.setDraft(f, 100));
        }
        Check.due("draft 0 stays", x.flue(0, 0), 99);
    }

    private static void lockAndUnlock() {
        BoilerCascade x = inEachState();
        Check.due("lock one that purges", x.lock(0), PURGING);
        Check.due("no ticks of its purge are left", x.boiler(0, 3), 0);
        Check.due("lock one that fires", x.lock(1), FIRING);
        Check.due("lock one on standby", x.lock(2), STANDBY);
        Check.due("lock one that is off", x.lock(4), OFF);
        for (int k = 0; k < 5; k++) {
            int i = k;
            Check.due("locked", x.boiler(i, 2), LOCKED);
            Check.badState("lock(" + i + ") again", () -> x.lock(i));
        }
        Check.due("its count of firing stays", x.boiler(2, 4), 1);
        Check.due("unlock(2)", x.unlock(2), 4);
        Check.due("it is off", x.boiler(2, 2), OFF);
        Check.badState("unlock(2) again", () -> x.unlock(2));
        Check.due("unlock(0)", x.unlock(0), 3);
        Check.due("unlock(1)", x.unlock(1), 2);
        Check.due("unlock(4)", x.unlock(4), 1);
        Check.due("unlock(3)", x.unlock(3), 0);
        BoilerCascade y = inEachState();
        Check.badState("unlock one that purges", () -> y.unlock(0));
        Check.badState("unlock one that fires", () -> y.unlock(1));
        Check.badState("unlock one on standby", () -> y.unlock(2));
        Check.badState("unlock one that is off", () -> y.unlock(4));
        for (int i : new int[] {-1, 5, Integer.MIN_VALUE, Integer.MAX_VALUE}) {
            Check.outOfBounds("lock(" + i + ")", () -> y.lock(i));
            Check.outOfBounds("unlock(" + i + ")", () -> y.unlock(i));
        }
        y.tick(10, 0);
        Check.due("a locked one never starts", y.boiler(3, 5), 0);
        Check.due("and takes no fuel", y.boiler(3, 6), 0);
    }

    private static void putOff() {
        BoilerCascade x = inEachState();
        Check.badState("putOff one that purges", () -> x.putOff(0));
        Check.badState("putOff one that fires", () -> x.putOff(1));
        Check.badState("putOff a locked one", () -> x.putOff(3));
        Check.badState("putOff one that is off", () -> x.putOff(4));
        Check.due("putOff(2) tells its fuel: 3 and 1 and 1 and 1", x.putOff(2), 6);
        Check.due("it is off", x.boiler(2, 2), OFF);
        Check.due("it takes no fuel then", x.boiler(2, 6), 6);
        Check.badState("putOff(2) again", () -> x.putOff(2));
        for (int i : new int[] {-1, 5, Integer.MIN_VALUE, Integer.MAX_VALUE}) {
            Check.outOfBounds("putOff(" + i + ")", () -> x.putOff(i));
        }
    }

    private static void undone(BoilerCascade x, String action, Check.Call call) {
        String before = Check.picture(x);
        Check.outcome(call);
        Check.outcome(() -> x.undo());
        Check.due("undo of " + action, Check.picture(x), before);
    }

    private static void undoOfEachAction() {
        BoilerCascade x = inEachState();
        undone(x, "tick(1, 0)", () -> x.tick(1, 0));
        undone(x, "tick(96, 5)", () -> x.tick(96, 5));
        undone(x, "draw(7)", () -> x.draw(7));
        for (int k = 0; k <= 5; k++) {
            int what = k;
            undone(x, "set", () -> x.set(what, new int[] {41, 9, 3, 61, 8, 7}[what]));
        }
        undone(x, "setFlue(0, false)", () -> x.setFlue(0, false));
        undone(x, "setFlue(1, false)", () -> x.setFlue(1, false));
        undone(x, "setDraft(0, 77)", () -> x.setDraft(0, 77));
        undone(x, "setDraft(1, 77)", () -> x.setDraft(1, 77));
        for (int k = 0; k < 5; k++) {
            int i = k;
            if (i != 3) {
                undone(x, "lock(" + i + ")", () -> x.lock(i));
            }
        }
        undone(x, "unlock(3)", () -> x.unlock(3));
        undone(x, "putOff(2)", () -> x.putOff(2));
        x.set(5, x.about(8));
        undone(x, "a tick in which a kill begins", () -> x.tick(1, 0));
        x.tick(5, 0);
        undone(x, "ticks in which a kill fails", () -> x.tick(20, 1));
        BoilerCascade y = Check.loaded("H20000b010t9090");
        y.set(4, 5);
        y.set(5, 0);
        y.tick(3, 0);
        Check.due("the run of a kill", y.about(12), 3);
        undone(y, "a tick in which the run grows", () -> y.tick(1, 0));
        undone(y, "a tick that ends the run", () -> y.tick(1, 5));
        undone(y, "ticks in which the kill is done", () -> y.tick(2, 0));
    }

    private static void undoTakesBackFourteen() {
        BoilerCascade x = new BoilerCascade();
        Check.badState("undo() of nothing", () -> x.undo());
        for (int k = 1; k <= 20; k++) {
            x.tick(k, 0);
        }
        for (int k = 13; k >= 0; k--) {
            Check.due("undo()", x.undo(), k);
            int ticks = 6 + k;
            Check.due("the clock", x.about(8), ticks * (ticks + 1) / 2);
        }
        Check.badState("undo() when all is taken back", () -> x.undo());
        Check.due("the clock", x.about(8), 21);
        x.draw(1);
        x.draw(1);
        Check.due("undo()", x.undo(), 1);
        x.draw(2);
        Check.due("undo()", x.undo(), 1);
        Check.due("draws", x.account(5), 1);
        Check.due("undo()", x.undo(), 0);
        Check.due("draws", x.account(5), 0);
        for (int k = 0; k < 14; k++) {
            x.draw(1);
        }
        Check.due("undo() of the last of fourteen", x.undo(), 13);
    }

    private static void undoWhatChangedNothing() {
        BoilerCascade x = new BoilerCascade();
        x.set(0, 60);
        x.setFlue(0, true);
        x.setDraft(0, 50);
        Check.due("three actions are remembered", x.undo(), 2);
        Check.due("undo()", x.undo(), 1);
        Check.due("undo()", x.undo(), 0);
    }

    private static void whatIsNoAction() {
        BoilerCascade x = new BoilerCascade();
        x.tick(1, 0);
        Check.picture(x);
        x.append('H');
        x.clearText();
        x.errorPosition();
        x.next();
        x.whyNot(0);
        x.smallestSet(1, true);
        x.ahead(1, 1, 1);
        x.warmAfter(50, 0);
        x.bearable(1, 10);
        x.cheapestPurge(5, 0);
        x.runScript(1, 10001);
        x.simulate(1, 5);
        x.save(0);
        Check.due("only the tick is remembered", x.undo(), 0);
        x.append('H');
        x.tick(1, 0);
        x.append('4');
        x.undo();
        Check.due("undo leaves the text", x.clearText(), 2);
        Check.due("undo leaves the save slot", x.restore(0), 1);
    }

    private static void callsThatThrowChangeNothing() {
        BoilerCascade x = inEachState();
        x.save(0);
        x.restore(0);
        String before = Check.picture(x);
        Check.Call[] calls = {() -> x.draw(0), () -> x.set(0, 0), () -> x.set(9, 0), () -> x.setFlue(2, false),
            () -> x.setDraft(2, 1), () -> x.setDraft(0, 100), () -> x.lock(9), () -> x.lock(3), () -> x.unlock(9),
            () -> x.unlock(0), () -> x.putOff(9), () -> x.putOff(0), () -> x.undo(), () -> x.tick(0, 0),
            () -> x.restore(1), () -> x.save(2), () -> x.append(256)};
        for (int k = 0; k < calls.length; k++) {
            Check.due("call " + k + " throws", Check.outcome(calls[k]).startsWith("throws.") ? 1 : 0, 1);
            Check.due("behind call " + k, Check.picture(x), before);
        }
        Check.badState("nothing was remembered", () -> x.undo());
    }
}
