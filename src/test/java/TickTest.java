/** Promise 11: tick, each part of it with answers worked out by hand. */
public final class TickTest {
    public static void main(String[] args) {
        firstTicks();
        bandEdges();
        whoStarts();
        whoGoesToStandby();
        startFromStandbyNeedsDraft();
        reasons();
        heatAtTheTop();
        heatGoesToTheColdest();
        losses();
        order();
        drawsAhead();
        killIsDone();
        killFails();
        killIsTimedByTheNight();
        killSettingsCountAsTheyAre();
        wrongArguments();
        Check.end("TickTest");
    }

    private static void state(BoilerCascade x, int i, int state, int left, int fired, int starts, int fuel) {
        int[] due = {state, left, fired, starts, fuel};
        for (int k = 0; k < due.length; k++) {
            Check.due("boiler(" + i + ", " + (k + 2) + ") at clock " + x.about(8), x.boiler(i, k + 2), due[k]);
        }
    }

    private static void firstTicks() {
        BoilerCascade x = new BoilerCascade();
        Check.due("tick(1, 0)", x.tick(1, 0), 39);
        state(x, 0, 1, 1, 0, 1, 0);
        Check.due("reason", x.about(10), 0);
        Check.due("lost", x.account(3), 4);
        Check.due("tick(1, 0)", x.tick(1, 0), 39);
        state(x, 0, 2, 0, 0, 1, 0);
        Check.due("reason", x.about(10), 3);
        Check.due("lost", x.account(3), 4);
        Check.due("no kill yet", x.about(11), 0);
        Check.due("tick(1, 0)", x.tick(1, 0), 40);
        state(x, 0, 2, 0, 1, 1, 10);
        Check.due("layers", Check.layers(x), "40 40 41 41");
        Check.due("a kill", x.about(11), 1);
        BoilerCascade y = new BoilerCascade();
        Check.due("tick(3, 0)", y.tick(3, 0), 40);
        Check.due("three at once", Check.picture(y), Check.picture(x));
        BoilerCascade z = new BoilerCascade();
        z.set(2, 1);
        z.tick(1, 0);
        state(z, 0, 2, 0, 0, 1, 0);
        z.tick(1, 0);
        state(z, 0, 2, 0, 1, 1, 10);
    }

    private static void bandEdges() {
        BoilerCascade x = Check.loaded("H25050b100t5757");
        x.tick(1, 0);
        Check.due("57 is not less than 60 - 3", x.boiler(0, 2), 0);
        Check.due("reason 0 in the band", x.about(10), 0);
        BoilerCascade y = Check.loaded("H25050b100t5657");
        y.tick(1, 0);
        Check.due("the mean 56 is", y.boiler(0, 2), 1);
        BoilerCascade z = Check.loaded("H25050b010t6163");
        z.set(0, 80);
        z.set(2, 1);
        z.tick(1, 0);
        Check.due("it fires from now on", z.boiler(0, 2), 2);
        Check.due("layers", Check.layers(z), "59 61");
        z.set(0, 57);
        z.tick(1, 0);
        Check.due("60 is not greater than 57 + 3", z.boiler(0, 2), 2);
        z.undo();
        z.set(0, 56);
        z.tick(1, 0);
        Check.due("60 is greater than 56 + 3", z.boiler(0, 2), 3);
        Check.due("reason 0 when one goes to standby", z.about(10), 0);
        Check.due("standby takes fuel at once", z.boiler(0, 6), 1);
        Check.due("and gives no heat", z.account(0), 0);
    }

    private static void whoStarts() {
        BoilerCascade x = Check.loaded("H29999b010b010b011t5050");
        x.set(5, 23);
        x.set(0, 80);
        x.set(2, 5);
        x.tick(1, 0);
        state(x, 0, 1, 4, 0, 1, 0);
        state(x, 1, 0, 0, 0, 0, 0);
        x.tick(1, 0);
        state(x, 1, 1, 4, 0, 1, 0);
        x.set(2, 1);
        x.tick(1, 0);
        state(x, 0, 1, 2, 0, 1, 0);
        state(x, 2, 2, 0, 0, 1, 0);
        x.tick(4, 0);
        state(x, 0, 2, 0, 2, 1, 2);
        state(x, 1, 2, 0, 1, 1, 1);
        state(x, 2, 2, 0, 4, 1, 4);
        x.setFlue(0, false);
        x.setFlue(1, false);
        x.setFlue(0, true);
        x.setFlue(1, true);
        Check.due("off, and the one that fired least is next", x.next(), 1);
        x.tick(1, 0);
        state(x, 1, 2, 0, 1, 2, 1);
        x.tick(1, 0);
        state(x, 0, 2, 0, 2, 2, 2);
        state(x, 1, 2, 0, 2, 2, 2);
        state(x, 2, 0, 0, 4, 1, 4);
    }

    private static void whoGoesToStandby() {
        BoilerCascade x = Check.loaded("H29999b010b010t5050");
        x.set(5, 23);
        x.set(0, 80);
        x.tick(1, 0);
        x.set(2, 1);
        x.tick(2, 0);
        state(x, 0, 2, 0, 1, 1, 1);
        state(x, 1, 2, 0, 1, 1, 1);
        Check.due("layers", Check.layers(x), "48 48");
        x.set(0, 40);
        x.tick(1, 0);
        state(x, 0, 2, 0, 2, 1, 2);
        state(x, 1, 3, 0, 1, 1, 2);
        x.tick(1, 0);
        state(x, 0, 3, 0, 2, 1, 3);
        state(x, 1, 3, 0, 1, 1, 3);
        x.set(0, 80);
        x.tick(1, 0);
        state(x, 0, 3, 0, 2, 1, 4);
        state(x, 1, 2, 0, 2, 2, 4);
        x.tick(1, 0);
        state(x, 0, 2, 0, 3, 2, 5);
        state(x, 1, 2, 0, 3, 2, 5);
        x.tick(1, 0);
        x.lock(1);
        x.unlock(1);
        x.tick(2, 0);
        state(x, 0, 2, 0, 6, 2, 8);
        state(x, 1, 2, 0, 5, 3, 7);
        x.set(0, 40);
        x.tick(1, 0);
        state(x, 0, 3, 0, 6, 2, 9);
        state(x, 1, 2, 0, 6, 3, 8);
    }

    private static void startFromStandbyNeedsDraft() {
        BoilerCascade x = Check.loaded("H29999b020t5050");
        x.set(5, 23);
        x.set(0, 80);
        x.set(2, 1);
        x.tick(2, 0);
        x.set(0, 40);
        x.tick(1, 0);
        Check.due("on standby", x.boiler(0, 2), 3);
        x.set(0, 80);
        x.setDraft(0, 1);
        x.tick(1, 0);
        Check.due("no draft: still on standby", x.boiler(0, 2), 3);
        Check.due("reason", x.about(10), 1);
        x.setDraft(0, 2);
        x.tick(1, 0);
        Check.due("fires at once", x.boiler(0, 2), 2);
        Check.due("two ticks of firing", x.boiler(0, 4), 2);
        Check.due("fuel: 2, 1, 1, 2", x.boiler(0, 6), 6);
    }

    private static void reasons() {
        BoilerCascade x = Check.loaded("H25000b100b101b020t2020");
        Check.due("no tick yet", x.about(10), 0);
        x.setDraft(0, 11);
        x.tick(1, 0);
        Check.due("one starts", x.about(10), 0);
        x.tick(1, 0);
        Check.due("two wait at open flues", x.about(10), 1);
        x.setFlue(1, false);
        x.tick(1, 0);
        Check.due("one waits at an open flue, one at a shut one", x.about(10), 1);
        x.lock(2);
        x.tick(1, 0);
        Check.due("one waits at a shut flue", x.about(10), 2);
        x.lock(1);
        x.tick(1, 0);
        Check.due("none waits", x.about(10), 3);
        x.tick(2, 5);
        Check.due("of the last one of some ticks", x.about(10), 3);
        x.unlock(1);
        x.setFlue(1, true);
        x.setFlue(0, false);
        x.tick(1, 0);
        Check.due("the first waits at a shut flue, the second at an open one", x.about(10), 1);
        x.setFlue(1, false);
        x.tick(1, 0);
        Check.due("both wait at shut flues", x.about(10), 2);
        x.draw(20);
        x.set(0, 41);
        Check.due("a draw keeps the reason", x.about(10), 2);
        x.undo();
        x.undo();
        x.undo();
        x.undo();
        Check.due("undo brings the reason back", x.about(10), 1);
    }

    private static void heatAtTheTop() {
        BoilerCascade x = Check.loaded("H29999b300b300b300b301b301t8080");
        x.set(3, 90);
        x.set(1, 9);
        x.set(5, 0);
        x.set(2, 1);
        Check.due("tick 1", x.tick(1, 0), 77);
        Check.due("tick 2", x.tick(1, 0), 89);
        Check.due("layers", Check.layers(x), "89 89");
        Check.due("run", x.about(12), 0);
        Check.due("tick 3", x.tick(1, 0), 96);
        Check.due("given", x.account(0), 90);
        Check.due("lost: 6 + 6 + 40 + 6", x.account(3), 58);
        Check.due("run", x.about(12), 1);
        Check.due("tick 4", x.tick(1, 0), 96);
        Check.due("lost: 54 + 6 more", x.account(3), 118);
        Check.due("given", x.account(0), 150);
        Check.due("kills that are done", x.about(14), 1);
        Check.due("fuel", x.account(4), 150);
    }

    private static void heatGoesToTheColdest() {
        BoilerCascade x = Check.loaded("H59999b120t1012131520");
        x.set(2, 1);
        x.tick(2, 0);
        // 10+2=12, then 12 12 13: 2 make 13 13 13, 3 make 14 14 14, 3 make 15 15 15, 2 of 4 make 16
        Check.due("twelve units", Check.layers(x), "15 15 16 16 20");
        BoilerCascade y = Check.loaded("H39999b010t050505");
        y.set(2, 1);
        y.tick(2, 0);
        Check.due("one unit", Check.layers(y), "5 5 6");
        BoilerCascade z = Check.loaded("H29999b050b030t1819");
        z.set(2, 1);
        z.tick(3, 0);
        Check.due("5, then 5 and 3", Check.layers(z), "25 25");
    }

    private static void losses() {
        BoilerCascade x = Check.loaded("H80000b010t0020213940598099");
        x.tick(1, 0);
        Check.due("each its loss", Check.layers(x), "0 20 21 39 39 58 77 96");
        Check.due("lost", x.account(3), 8);
        BoilerCascade y = Check.loaded("H20000b010t6079");
        y.tick(1, 0);
        Check.due("two each", Check.layers(y), "58 77");
    }

    private static void order() {
        BoilerCascade x = Check.loaded("H30000b010t000509");
        x.draw(1);
        Check.due("a draw does not put them in order", Check.layers(x), "10 0 5");
        x.tick(1, 0);
        Check.due("a tick does", Check.layers(x), "0 5 10");
        BoilerCascade y = Check.loaded("H89999b010t0001020304050607");
        y.draw(3);
        Check.due("drawn", Check.layers(y), "10 10 10 0 1 2 3 4");
        y.tick(1, 0);
        Check.due("in order", Check.layers(y), "0 1 2 3 4 10 10 10");
    }

    private static void drawsAhead() {
        BoilerCascade x = Check.loaded("H30000b010t203050");
        Check.due("tick(2, 2)", x.tick(2, 2), 10);
        Check.due("draws", x.account(5), 4);
        Check.due("delivered: 50 + 30, 20 + 10", x.account(2), 110);
        Check.due("cold", x.account(1), 40);
        BoilerCascade y = Check.loaded("H29999b300t6060");
        y.tick(1, 1);
        Check.due("drawn ahead of the control: 35 is too cold", y.boiler(0, 2), 1);
        BoilerCascade z = Check.loaded("H29999b300t6060");
        z.tick(1, 5);
        Check.due("five draws", z.account(2), 60 + 60 + 10 + 10 + 10);
    }

    private static void killIsDone() {
        BoilerCascade x = Check.loaded("H20000b010t9090");
        x.set(5, 0);
        x.set(4, 1);
        x.tick(1, 0);
        Check.due("done in the tick in which it began", x.about(14), 1);
        Check.due("none goes on", x.about(11), 0);
        Check.due("its run", x.about(12), 0);
        Check.due("its ticks", x.about(13), 0);
        BoilerCascade y = Check.loaded("H20000b010t9090");
        y.set(4, 3);
        y.set(3, 78);
        y.set(5, 1);
        y.tick(1, 0);
        Check.due("87: hour 0", y.about(11), 0);
        y.tick(2, 0);
        Check.due("84, 81", y.about(12), 2);
        Check.due("ticks", y.about(13), 2);
        y.tick(1, 0);
        Check.due("78 is enough", y.about(14), 1);
        Check.due("failed", y.about(15), 0);
        BoilerCascade z = Check.loaded("H20000b010t9090");
        z.set(4, 4);
        z.set(3, 80);
        z.set(5, 0);
        z.tick(3, 0);
        Check.due("87 84 81", z.about(12), 3);
        z.tick(1, 0);
        Check.due("78: the run is 0 again", z.about(12), 0);
        Check.due("ticks", z.about(13), 4);
        BoilerCascade w = Check.loaded("H20000b010t7199");
        w.set(5, 0);
        w.set(3, 70);
        w.tick(1, 0);
        Check.due("all layers must be hot", w.about(12), 0);
    }

    private static void killFails() {
        BoilerCascade x = Check.loaded("H20000b010t4040");
        x.set(5, 0);
        x.tick(11, 0);
        Check.due("its ticks", x.about(13), 11);
        Check.due("not failed yet", x.about(15), 0);
        x.set(5, 11);
        x.tick(1, 0);
        Check.due("failed", x.about(15), 1);
        Check.due("it does not begin anew in this tick", x.about(11), 0);
        Check.due("its ticks", x.about(13), 0);
        x.tick(1, 0);
        Check.due("nor in the next one", x.about(11), 0);
        BoilerCascade y = Check.loaded("H20000b010t9999");
        y.set(4, 9);
        y.set(3, 90);
        y.set(5, 0);
        y.tick(11, 0);
        y.set(3, 60);
        y.set(4, 1);
        y.tick(1, 0);
        Check.due("in the tick 12 it can still be done", y.about(14), 1);
        Check.due("and is not failed", y.about(15), 0);
    }

    private static void killIsTimedByTheNight() {
        BoilerCascade x = new BoilerCascade();
        x.setDraft(0, 0);
        x.set(5, 23);
        x.tick(23, 0);
        Check.due("hour 22 is over", x.about(11), 0);
        x.tick(1, 0);
        Check.due("hour 23", x.about(11), 1);
        x.tick(11, 0);
        Check.due("failed", x.about(15), 1);
        x.tick(12, 0);
        Check.due("clock 47", x.about(8), 47);
        Check.due("none", x.about(11), 0);
        x.tick(1, 0);
        Check.due("the next night", x.about(11), 1);
        x.set(5, 0);
        Check.due("it stays when the night changes", x.about(11), 1);
        x.tick(1, 0);
        Check.due("it is not begun anew at hour 0", x.about(13), 2);
    }

    private static void killSettingsCountAsTheyAre() {
        BoilerCascade x = Check.loaded("H29999b010t6767");
        x.set(5, 0);
        x.set(3, 80);
        x.tick(1, 0);
        Check.due("the goal is the kill: 67 is less than 77", x.boiler(0, 2), 1);
        Check.due("layers", Check.layers(x), "65 65");
        Check.due("run", x.about(12), 0);
        x.set(3, 64);
        x.tick(1, 0);
        Check.due("63 is not enough", x.about(12), 0);
        x.undo();
        x.set(3, 63);
        x.tick(1, 0);
        Check.due("63 is enough", x.about(12), 1);
        x.set(3, 61);
        x.set(4, 3);
        x.tick(1, 0);
        Check.due("layers", Check.layers(x), "61 62");
        Check.due("the run is not yet three", x.about(12), 2);
        x.undo();
        x.set(4, 2);
        x.tick(1, 0);
        Check.due("done", x.about(14), 1);
        BoilerCascade y = Check.loaded("H29999b010t6565");
        y.tick(1, 0);
        Check.due("no kill: 65 is warm enough", y.boiler(0, 2), 0);
    }

    private static void wrongArguments() {
        BoilerCascade x = Check.loaded("H35050b100b201t304050");
        x.tick(2, 1);
        String before = Check.picture(x);
        int[][] wrong = {{0, 0}, {97, 0}, {-1, 0}, {1, -1}, {1, 6}, {0, 6}, {Integer.MAX_VALUE, 1},
            {Integer.MIN_VALUE, 1}, {5, Integer.MAX_VALUE}, {5, Integer.MIN_VALUE}};
        for (int[] w : wrong) {
            Check.badArgument("tick(" + w[0] + ", " + w[1] + ")", () -> x.tick(w[0], w[1]));
        }
        Check.due("nothing changed", Check.picture(x), before);
        Check.due("nor was it remembered", x.undo(), 0);
        Check.due("tick(96, 5)", x.tick(96, 5) >= 0 ? 1 : 0, 1);
        Check.due("the clock", x.about(8), 96);
    }
}
