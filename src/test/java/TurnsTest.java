/** Promises 20 to 22: next, whyNot, smallestSet. */
public final class TurnsTest {
    private static final int NONE = BoilerCascade.NONE;

    public static void main(String[] args) {
        next();
        whyNot();
        smallestSet();
        smallestSetKeepsToTheDrafts();
        theyChangeNothing();
        Check.end("TurnsTest");
    }

    private static void next() {
        BoilerCascade x = Check.loaded("H29999b010b010b011t5050");
        x.set(5, 23);
        x.set(0, 80);
        x.set(2, 1);
        Check.due("all off: the smallest number", x.next(), 0);
        x.tick(1, 0);
        Check.due("the next one", x.next(), 1);
        x.setFlue(0, false);
        Check.due("flue 0 is shut", x.next(), 2);
        x.undo();
        x.tick(2, 0);
        Check.due("all fire", x.next(), NONE);
        x.tick(1, 0);
        x.lock(1);
        x.unlock(1);
        x.set(0, 40);
        x.tick(2, 0);
        int[] states = {3, 0, 3};
        int[] fired = {3, 2, 2};
        for (int i = 0; i < 3; i++) {
            Check.due("state of " + i, x.boiler(i, 2), states[i]);
            Check.due("fired of " + i, x.boiler(i, 4), fired[i]);
        }
        Check.due("the one that fired least, among two the smaller number", x.next(), 1);
        x.lock(1);
        Check.due("the other one", x.next(), 2);
        x.setDraft(1, 0);
        Check.due("no draft", x.next(), 0);
        x.setFlue(0, false);
        Check.due("shut", x.next(), NONE);
        BoilerCascade y = Check.loaded("H22500b260b250b011t5050");
        Check.due("26 of 25, 25 of 25", y.next(), 1);
        y.setDraft(0, 24);
        Check.due("none has draft", y.next(), NONE);
        y.setDraft(1, 1);
        Check.due("1 of 1", y.next(), 2);
        Check.due("also while the tank is warm enough", Check.loaded("H25050b100t9999").next(), 0);
    }

    private static void whyNot() {
        BoilerCascade x = Check.loaded("H29999b010b021b030t5050");
        x.set(5, 23);
        x.set(0, 80);
        x.set(2, 2);
        Check.due("off", x.whyNot(0), 0);
        x.setDraft(0, 0);
        Check.due("no draft", x.whyNot(0), 4);
        x.setFlue(0, false);
        Check.due("shut, and no draft", x.whyNot(0), 3);
        x.lock(0);
        Check.due("locked at a shut flue", x.whyNot(0), 2);
        x.setFlue(0, true);
        x.setDraft(0, 3);
        Check.due("locked", x.whyNot(0), 2);
        x.tick(1, 0);
        Check.due("purges", x.whyNot(1), 1);
        x.tick(2, 0);
        Check.due("fires", x.whyNot(1), 1);
        x.unlock(0);
        Check.due("1 with 3 of 3", x.whyNot(0), 4);
        Check.due("a purging one", x.whyNot(2), 1);
        x.setDraft(0, 4);
        Check.due("1 with 3 of 4", x.whyNot(0), 0);
        x.setDraft(1, 0);
        Check.due("fires without draft", x.whyNot(1), 1);
        x.set(0, 40);
        x.tick(1, 0);
        Check.due("on standby", x.boiler(1, 2), 3);
        Check.due("on standby without draft", x.whyNot(1), 4);
        x.setDraft(1, 2);
        Check.due("on standby with draft", x.whyNot(1), 0);
        for (int i : new int[] {-1, 3, Integer.MIN_VALUE, Integer.MAX_VALUE}) {
            Check.outOfBounds("whyNot(" + i + ")", () -> x.whyNot(i));
        }
    }

    private static void smallest(BoilerCascade x, int heat, int set, int sum) {
        Check.due("smallestSet(" + heat + ", true)", x.smallestSet(heat, true), set);
        Check.due("smallestSet(" + heat + ", false)", x.smallestSet(heat, false), sum);
    }

    private static void smallestSet() {
        BoilerCascade x = Check.loaded("H29999b100b200b051b300b201");
        smallest(x, 1, 4, 5);
        smallest(x, 5, 4, 5);
        smallest(x, 6, 1, 10);
        smallest(x, 11, 2, 20);
        smallest(x, 20, 2, 20);
        smallest(x, 21, 8, 30);
        smallest(x, 30, 8, 30);
        smallest(x, 31, 12, 35);
        smallest(x, 36, 9, 40);
        smallest(x, 40, 9, 40);
        smallest(x, 41, 10, 50);
        smallest(x, 50, 10, 50);
        smallest(x, 51, 14, 55);
        smallest(x, 56, 11, 60);
        smallest(x, 71, 30, 75);
        smallest(x, 76, 27, 80);
        smallest(x, 81, 31, 85);
        smallest(x, 86, NONE, NONE);
        Check.badArgument("smallestSet(0, true)", () -> x.smallestSet(0, true));
        Check.badArgument("smallestSet(0, false)", () -> x.smallestSet(0, false));
        Check.badArgument("smallestSet(151, true)", () -> x.smallestSet(151, true));
        Check.badArgument("smallestSet(-1, true)", () -> x.smallestSet(-1, true));
        Check.badArgument("smallestSet(least int, true)", () -> x.smallestSet(Integer.MIN_VALUE, true));
        Check.badArgument("smallestSet(greatest int, false)", () -> x.smallestSet(Integer.MAX_VALUE, false));
    }

    private static void smallestSetKeepsToTheDrafts() {
        BoilerCascade x = Check.loaded("H26060b300b300b300b301b301");
        smallest(x, 30, 1, 30);
        smallest(x, 60, 3, 60);
        smallest(x, 61, 11, 90);
        smallest(x, 120, 27, 120);
        smallest(x, 121, NONE, NONE);
        smallest(x, 150, NONE, NONE);
        x.setDraft(0, 90);
        smallest(x, 150, 31, 150);
        x.setDraft(0, 59);
        smallest(x, 60, 9, 60);
        x.setDraft(1, 29);
        smallest(x, 31, NONE, NONE);
        smallest(x, 30, 1, 30);
        x.setFlue(0, false);
        x.lock(0);
        smallest(x, 30, 1, 30);
        x.setFlue(0, true);
        x.tick(1, 0);
        Check.due("another one purges", x.boiler(1, 2), 1);
        smallest(x, 30, 1, 30);
        x.setDraft(0, 29);
        smallest(x, 1, NONE, NONE);
    }

    private static void theyChangeNothing() {
        BoilerCascade x = Check.loaded("H26060b300b300b300b301b301t1020");
        x.tick(3, 1);
        String before = Check.picture(x);
        x.next();
        x.whyNot(4);
        x.smallestSet(100, true);
        x.smallestSet(100, false);
        Check.due("nothing changed", Check.picture(x), before);
        Check.due("nor was it remembered", x.undo(), 0);
    }
}
