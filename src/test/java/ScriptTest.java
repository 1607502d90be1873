/** Promises 27 and 28: runScript, simulate. */
public final class ScriptTest {
    private static final int NONE = BoilerCascade.NONE;

    public static void main(String[] args) {
        ticksAndDraws();
        settings();
        flues();
        locks();
        questions();
        otherGroups();
        orderOfCommands();
        digits();
        effects();
        simulateIsSetFlueAndTick();
        simulateByHand();
        theyChangeNothing();
        Check.end("ScriptTest");
    }

    private static BoilerCascade two() {
        return Check.loaded("H45050b100b201");
    }

    private static void script(BoilerCascade x, int n, long script, int want) {
        Check.due("runScript(" + n + ", " + script + ")", x.runScript(n, script), want);
    }

    private static void succeed(long... groups) {
        for (long g : groups) {
            script(two(), 1, g, NONE);
        }
    }

    private static void fail(long... groups) {
        for (long g : groups) {
            script(two(), 1, g, 0);
        }
    }

    private static void ticksAndDraws() {
        succeed(10001, 10096, 15001, 15096, 12050);
        fail(10000, 10097, 10099, 16001, 19001, 10101, 15101, 10901);
        succeed(20001, 20009, 20010, 20020);
        fail(20000, 20021, 20099, 21001, 29020, 20101, 20120);
    }

    private static void settings() {
        int[] least = {40, 1, 1, 60, 1, 0};
        int[] most = {80, 9, 5, 90, 9, 23};
        for (int w = 0; w <= 5; w++) {
            int group = 30_000 + 1000 * w;
            succeed(group + least[w], group + most[w]);
            fail(group + most[w] + 1, group + 99, group + 100 + least[w], group + 900 + most[w]);
            if (least[w] > 0) {
                fail(group + least[w] - 1);
            }
        }
        fail(36001, 36005, 39009, 37060);
    }

    private static void flues() {
        succeed(40000, 40001, 41000, 41001);
        fail(42000, 42001, 49001, 40002, 40009, 40010, 40011, 40100, 40101, 41110);
    }

    private static void locks() {
        succeed(50000, 51000);
        fail(52000, 55000, 59000, 50001, 50010, 50100, 51001);
        fail(60000, 61000, 62000, 60001);
        script(two(), 2, 50000_50000L, 1);
        script(two(), 2, 50000_60000L, NONE);
        script(two(), 2, 50000_61000L, 1);
        script(two(), 3, 51000_61000_61000L, 2);
        script(two(), 3, 51000_61000_51000L, NONE);
        script(two(), 2, 51000_61001L, 1);
        script(two(), 2, 51000_61010L, 1);
        script(two(), 2, 51000_61100L, 1);
        BoilerCascade x = two();
        x.lock(1);
        script(x, 1, 61000, NONE);
        script(x, 1, 51000, 0);
    }

    private static void questions() {
        succeed(70000, 70040, 80000, 81000, 90000);
        fail(70041, 70099, 71040, 70140, 79000);
        fail(80001, 80002, 80003, 80004, 80005, 80009, 80010, 80100, 82000, 89000);
        fail(90001, 90009, 91000, 90010, 90100);
        BoilerCascade x = Check.loaded("H20000b010t9090");
        x.set(4, 1);
        x.set(5, 0);
        x.tick(1, 0);
        script(x, 1, 90001, NONE);
        script(x, 1, 90000, 0);
        script(x, 1, 90002, 0);
        script(x, 1, 90011, 0);
        script(x, 1, 90101, 0);
        script(x, 1, 70087, NONE);
        script(x, 1, 70088, 0);
        BoilerCascade y = two();
        y.set(2, 3);
        y.tick(1, 0);
        script(y, 1, 80001, NONE);
        script(y, 1, 80011, 0);
        script(y, 1, 80101, 0);
        y.tick(2, 0);
        script(y, 1, 80002, NONE);
        script(y, 1, 81001, NONE);
        y.lock(0);
        script(y, 1, 80004, NONE);
    }

    private static void otherGroups() {
        fail(0, 1, 99, 100, 1001, 9999, 99999);
        script(two(), 3, 0, 0);
        // ten kills are not k kills for any digit k
        BoilerCascade x = Check.loaded("H29999b300b301t9090");
        x.set(4, 1);
        x.set(3, 60);
        x.set(0, 80);
        for (int k = 0; k < 10; k++) {
            x.set(5, x.about(8) % 24);
            x.tick(1, 0);
            x.tick(1, 0);
        }
        Check.due("kills", x.about(14), 10);
        for (int k = 0; k <= 9; k++) {
            script(x, 1, 90_000 + k, 0);
        }
        script(x, 1, 90_010, 0);
    }

    private static void orderOfCommands() {
        script(two(), 2, 10001, 0);
        script(two(), 3, 10001, 0);
        script(two(), 3, 10001_00000L, 0);
        script(two(), 2, 10001_00000L, 1);
        script(two(), 3, 10001_10001_00000L, 2);
        script(two(), 3, 10001_00000_10001L, 1);
        script(two(), 3, 10001_10001_10001L, NONE);
        script(two(), 3, 70041_00000_00000L, 0);
    }

    private static void digits() {
        BoilerCascade x = two();
        for (int n : new int[] {0, 4, -1, Integer.MIN_VALUE, Integer.MAX_VALUE}) {
            Check.badArgument("runScript(" + n + ", 10001)", () -> x.runScript(n, 10001));
        }
        Check.badArgument("runScript(1, -1)", () -> x.runScript(1, -1));
        Check.badArgument("runScript(1, 100000)", () -> x.runScript(1, 100_000));
        Check.badArgument("runScript(2, 10^10)", () -> x.runScript(2, 10_000_000_000L));
        Check.badArgument("runScript(3, 10^15)", () -> x.runScript(3, 1_000_000_000_000_000L));
        Check.badArgument("runScript(3, -10001)", () -> x.runScript(3, -10001));
        Check.badArgument("runScript(3, least long)", () -> x.runScript(3, Long.MIN_VALUE));
        Check.badArgument("runScript(3, greatest long)", () -> x.runScript(3, Long.MAX_VALUE));
        Check.badArgument("runScript(1, 2^32)", () -> x.runScript(1, 1L << 32));
        script(x, 1, 99_999, 0);
        script(x, 2, 9_999_999_999L, 0);
        script(x, 3, 999_999_999_999_999L, 0);
        script(x, 3, 90000_90000_90001L, 2);
    }

    private static void effects() {
        script(two(), 3, 10001_80001_81000L, NONE);
        script(two(), 3, 10002_80002_81001L, NONE);
        // one tick with four draws ahead leaves water of 10 degrees
        script(two(), 2, 14001_70010L, NONE);
        script(two(), 2, 14001_70011L, 1);
        script(two(), 2, 20004_70011L, 1);
        script(two(), 2, 20003_70017L, NONE);
        script(two(), 2, 20003_70018L, 1);
        script(two(), 3, 30040_10001_80000L, NONE);
        script(two(), 3, 30044_10001_80001L, NONE);
        script(two(), 3, 32001_10001_80002L, NONE);
        script(two(), 3, 40000_10001_80000L, NONE);
        script(two(), 3, 40000_10001_81001L, NONE);
        script(two(), 3, 10001_40000_80000L, NONE);
        script(two(), 3, 10001_41000_80001L, NONE);
        script(two(), 3, 50000_10001_81001L, NONE);
        script(two(), 3, 50000_60000_80000L, NONE);
        BoilerCascade x = two();
        x.setFlue(0, false);
        x.setFlue(1, false);
        script(x, 3, 41001_10001_81001L, NONE);
        script(x, 3, 40001_10001_80001L, NONE);
        script(x, 3, 40000_10001_80000L, NONE);
    }

    private static int byHand(BoilerCascade x, long seed, int m) {
        int fuel = x.account(4);
        long v = seed;
        for (int k = 0; k < m; k++) {
            v = v * 6364136223846793005L + 1442695040888963407L;
            int r = (int) (v >>> 33);
            if (r % 16 == 0) {
                int f = r / 16 % 2;
                x.setFlue(f, x.flue(f, 2) == 0);
            }
            x.tick(1, r / 64 % 4);
        }
        return 1000 * (x.account(4) - fuel) + x.about(9);
    }

    private static void simulateIsSetFlueAndTick() {
        String text = "H49050b100b201b300b150";
        long[] seeds = {0, 1, -1, 42, Long.MIN_VALUE, Long.MAX_VALUE, 123456789012345L};
        for (long seed : seeds) {
            for (int m = 1; m <= 96; m += 19) {
                BoilerCascade x = Check.loaded(text);
                x.tick(9, 1);
                BoilerCascade y = Check.loaded(text);
                y.tick(9, 1);
                Check.due("simulate(" + seed + ", " + m + ")", x.simulate(seed, m), byHand(y, seed, m));
            }
        }
    }

    private static void simulateByHand() {
        BoilerCascade x = Check.loaded("H20000b010t5050");
        // from 0 the first r is 167951807: r % 16 is 15, r / 64 % 4 is 2
        long r = 1442695040888963407L / 8_589_934_592L;
        Check.due("r", r, 167951807);
        Check.due("simulate(0, 1): two draws leave 10 10", x.simulate(0, 1), 10);
        // seeds whose first r is 15, 80, 0 and 16
        Check.due("simulate, r = 15: no draw", x.simulate(-8638333942244356075L, 1), 49);
        Check.due("simulate, r = 80: one draw leaves 10 50, less 1", x.simulate(4354731070698246165L, 1), 29);
        BoilerCascade y = Check.loaded("H29999b300t1010");
        y.set(2, 1);
        y.tick(1, 0);
        Check.due("simulate(0, 1): 30 units on 10 10", y.simulate(0, 1), 30_025);
        Check.due("simulate, r = 0: flue 0 is shut", y.simulate(-7379792620528906219L, 1), 10);
        Check.due("simulate, r = 16: flue 1 is shut", y.simulate(-1343539067541565419L, 1), 30_025);
        Check.due("simulate, r = 15: no flue", y.simulate(-8638333942244356075L, 1), 30_025);
        for (int m : new int[] {0, 97, -1, Integer.MIN_VALUE, Integer.MAX_VALUE}) {
            Check.badArgument("simulate(0, " + m + ")", () -> x.simulate(0, m));
        }
    }

    private static void theyChangeNothing() {
        BoilerCascade x = two();
        x.tick(5, 1);
        String before = Check.picture(x);
        script(x, 3, 10096_20020_30080L, NONE);
        script(x, 3, 40000_41000_50000L, NONE);
        script(x, 2, 50000_60000L, NONE);
        x.simulate(7, 96);
        Check.due("nothing changed", Check.picture(x), before);
        Check.due("nor was it remembered", x.undo(), 0);
    }
}
