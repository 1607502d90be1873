/** Promises 23 to 26: ahead, warmAfter, bearable, cheapestPurge. */
public final class ForecastTest {
    private static final int NONE = BoilerCascade.NONE;
    private static final int[] FAR = {Integer.MIN_VALUE, -1, 1000, Integer.MAX_VALUE};

    public static void main(String[] args) {
        ahead();
        aheadCountsTheseTicksAlone();
        aheadIsWhatTickDoes();
        warmAfter();
        warmAfterTwoHundred();
        bearable();
        cheapestPurge();
        wrongArguments();
        theyChangeNothing();
        Check.end("ForecastTest");
    }

    private static void ahead(BoilerCascade x, int m, int draws, int... due) {
        for (int what = 0; what < due.length; what++) {
            Check.due("ahead(" + m + ", " + draws + ", " + what + ")", x.ahead(m, draws, what), due[what]);
        }
    }

    private static void ahead() {
        BoilerCascade x = new BoilerCascade();
        ahead(x, 1, 0, 39, 39, 0, 0, 1, 0, 39);
        ahead(x, 3, 0, 40, 41, 0, 10, 1, 0, 39);
        ahead(x, 1, 1, 31, 39, 40, 0, 1, 0, 31);
        ahead(x, 1, 2, 24, 39, 80, 0, 1, 0, 24);
        ahead(x, 2, 4, 10, 10, 200, 0, 1, 0, 10);
        ahead(x, 1, 5, 10, 10, 170, 0, 1, 0, 10);
    }

    private static void aheadCountsTheseTicksAlone() {
        BoilerCascade x = Check.loaded("H20000b010t9090");
        x.set(5, 0);
        x.set(4, 1);
        Check.due("a kill", x.ahead(1, 0, 5), 1);
        x.tick(1, 0);
        Check.due("none more", x.ahead(1, 0, 5), 0);
        x.draw(2);
        Check.due("delivered", x.ahead(1, 1, 2), 10);
        BoilerCascade y = Check.loaded("H29999b300b010t1010");
        y.set(2, 1);
        y.tick(1, 0);
        // 30 units: 25 25; the second one starts
        ahead(y, 1, 0, 25, 25, 0, 30, 1, 0, 25);
        y.tick(2, 0);
        // 25 and 31 units: 40 41, less 1 each
        Check.due("layers", Check.layers(y), "39 40");
        // 31 units make 55 55, less 1 each
        ahead(y, 1, 0, 54, 54, 0, 31, 0, 0, 54);
        Check.due("the smallest mean is not the one of now", y.ahead(2, 0, 6), 54);
    }

    private static void aheadIsWhatTickDoes() {
        String[] texts = {"H45050b100", "H83040b100b201b300b151b050t0510152025303540", "H29920b200b101b101t6070"};
        for (String text : texts) {
            for (int m = 1; m <= 96; m += 5) {
                for (int draws = 0; draws <= 5; draws++) {
                    BoilerCascade x = Check.loaded(text);
                    x.tick(7, 0);
                    BoilerCascade y = Check.loaded(text);
                    y.tick(7, 0);
                    int delivered = y.account(2);
                    int fuel = y.account(4);
                    int starts = starts(y);
                    int done = y.about(14);
                    int smallest = 99;
                    for (int k = 0; k < m; k++) {
                        smallest = Math.min(smallest, y.tick(1, draws));
                    }
                    ahead(x, m, draws, y.about(9), y.layer(y.about(7) - 1), y.account(2) - delivered,
                            y.account(4) - fuel, starts(y) - starts, y.about(14) - done, smallest);
                }
            }
        }
    }

    private static int starts(BoilerCascade x) {
        int sum = 0;
        for (int i = 0; i < x.about(6); i++) {
            sum += x.boiler(i, 5);
        }
        return sum;
    }

    private static void warm(BoilerCascade x, int temperature, int draws, int want) {
        Check.due("warmAfter(" + temperature + ", " + draws + ")", x.warmAfter(temperature, draws), want);
    }

    private static void warmAfter() {
        BoilerCascade x = Check.loaded("H29999b300t1010");
        x.set(2, 1);
        // the means behind the ticks are 10, 25, 39, 53, 66, 78
        int[] means = {10, 10, 25, 39, 53, 66, 78};
        for (int k = 1; k < means.length; k++) {
            if (means[k] > means[k - 1]) {
                warm(x, means[k - 1] + 1, 0, k);
            }
            warm(x, means[k], 0, k == 1 ? 0 : k);
        }
        warm(x, 0, 0, 0);
        warm(x, 0, 5, 0);
        warm(x, 10, 5, 0);
        warm(x, 97, 0, NONE);
        warm(x, 99, 5, NONE);
        warm(Check.loaded("H20000b010t9999"), 99, 5, 0);
        warm(Check.loaded("H20000b010t9899"), 99, 0, NONE);
        warm(Check.loaded("H20000b010t9899"), 98, 0, 0);
        // nothing heats, but water of 10 degrees comes in; put in order it is what the next draws deliver
        BoilerCascade y = Check.loaded("H40000b010t00000000");
        warm(y, 2, 1, 1);
        warm(y, 3, 1, NONE);
        warm(y, 5, 2, 1);
        warm(y, 6, 2, NONE);
        warm(y, 7, 3, 1);
        warm(y, 8, 3, NONE);
        warm(y, 10, 4, 1);
        warm(y, 10, 5, 1);
        warm(y, 11, 5, NONE);
        warm(y, 1, 0, NONE);
    }

    private static void warmAfterTwoHundred() {
        BoilerCascade x = Check.loaded("H89999b010t0000000000000000");
        x.set(2, 1);
        // one unit each tick but the first one, and eight make a degree
        warm(x, 24, 0, 193);
        warm(x, 25, 0, NONE);
        x.tick(1, 0);
        warm(x, 24, 0, 192);
        warm(x, 25, 0, 200);
        warm(x, 26, 0, NONE);
    }

    private static void bear(BoilerCascade x, int m, int least, int want) {
        Check.due("bearable(" + m + ", " + least + ")", x.bearable(m, least), want);
    }

    private static void bearable() {
        BoilerCascade x = new BoilerCascade();
        bear(x, 1, 40, NONE);
        bear(x, 1, 39, 3);
        bear(x, 2, 39, 1);
        bear(x, 1, 11, 3);
        bear(x, 1, 10, 5);
        bear(x, 2, 10, 5);
        bear(x, 96, 80, NONE);
        BoilerCascade y = Check.loaded("H20000b010t0000");
        // without draws the tank stays colder than the water that comes in
        bear(y, 1, 10, 5);
        bear(y, 96, 10, 5);
        bear(y, 1, 11, NONE);
        BoilerCascade z = Check.loaded("H29999b300t1010");
        z.set(2, 1);
        z.tick(1, 0);
        bear(z, 1, 25, 5);
        bear(z, 2, 25, 5);
        // behind the second tick it is warm enough, but not behind the first one
        bear(z, 2, 26, NONE);
        BoilerCascade w = Check.loaded("H40000b010t30303060");
        bear(w, 1, 58, 0);
        bear(w, 1, 59, NONE);
        bear(w, 1, 30, 3);
        bear(w, 2, 30, 1);
    }

    private static void purge(BoilerCascade x, int m, int draws, int want) {
        Check.due("cheapestPurge(" + m + ", " + draws + ")", x.cheapestPurge(m, draws), want);
    }

    private static void cheapestPurge() {
        BoilerCascade x = new BoilerCascade();
        purge(x, 1, 0, 1);
        purge(x, 2, 0, 2);
        purge(x, 3, 0, 3);
        purge(x, 3, 5, 3);
        purge(x, 4, 0, 4);
        purge(x, 5, 0, 5);
        purge(x, 6, 0, 5);
        x.set(2, 5);
        purge(x, 1, 0, 1);
        purge(x, 3, 0, 3);
        Check.due("the setting stays", x.about(2), 5);
        x.set(2, 2);
        x.tick(1, 0);
        // who purges keeps the ticks left, so each purge takes as much
        purge(x, 5, 0, 1);
        BoilerCascade y = new BoilerCascade();
        y.tick(20, 3);
        Check.due("fuel of before does not matter", y.account(4) > 0 ? 1 : 0, 1);
        y.lock(0);
        y.unlock(0);
        purge(y, 4, 0, 4);
    }

    private static void wrongArguments() {
        BoilerCascade x = new BoilerCascade();
        Check.badArgument("ahead(0, 0, 0)", () -> x.ahead(0, 0, 0));
        Check.badArgument("ahead(97, 0, 0)", () -> x.ahead(97, 0, 0));
        Check.badArgument("ahead(1, 6, 0)", () -> x.ahead(1, 6, 0));
        Check.badArgument("ahead(1, 0, 7)", () -> x.ahead(1, 0, 7));
        Check.badArgument("warmAfter(100, 0)", () -> x.warmAfter(100, 0));
        Check.badArgument("warmAfter(0, 6)", () -> x.warmAfter(0, 6));
        Check.badArgument("bearable(0, 40)", () -> x.bearable(0, 40));
        Check.badArgument("bearable(97, 40)", () -> x.bearable(97, 40));
        Check.badArgument("bearable(1, 9)", () -> x.bearable(1, 9));
        Check.badArgument("bearable(1, 81)", () -> x.bearable(1, 81));
        Check.badArgument("cheapestPurge(0, 0)", () -> x.cheapestPurge(0, 0));
        Check.badArgument("cheapestPurge(97, 0)", () -> x.cheapestPurge(97, 0));
        Check.badArgument("cheapestPurge(1, 6)", () -> x.cheapestPurge(1, 6));
        for (int v : FAR) {
            Check.badArgument("ahead m " + v, () -> x.ahead(v, 0, 0));
            Check.badArgument("ahead draws " + v, () -> x.ahead(1, v, 0));
            Check.badArgument("ahead what " + v, () -> x.ahead(1, 0, v));
            Check.badArgument("warmAfter temperature " + v, () -> x.warmAfter(v, 0));
            Check.badArgument("warmAfter draws " + v, () -> x.warmAfter(0, v));
            Check.badArgument("bearable m " + v, () -> x.bearable(v, 40));
            Check.badArgument("bearable least " + v, () -> x.bearable(1, v));
            Check.badArgument("cheapestPurge m " + v, () -> x.cheapestPurge(v, 0));
            Check.badArgument("cheapestPurge draws " + v, () -> x.cheapestPurge(1, v));
        }
        Check.due("ahead(96, 5, 2)", x.ahead(96, 5, 2) > 0 ? 1 : 0, 1);
        Check.due("bearable(96, 10)", x.bearable(96, 10), 5);
    }

    private static void theyChangeNothing() {
        BoilerCascade x = Check.loaded("H83040b100b201b300b151b050t0510152025303540");
        x.tick(5, 1);
        String before = Check.picture(x);
        for (int what = 0; what <= 6; what++) {
            x.ahead(96, 3, what);
        }
        x.warmAfter(99, 5);
        x.bearable(96, 80);
        x.cheapestPurge(96, 2);
        Check.due("nothing changed", Check.picture(x), before);
        Check.due("nor was it remembered", x.undo(), 0);
    }
}
