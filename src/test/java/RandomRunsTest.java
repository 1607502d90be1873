import java.util.Random;

/** Runs of 512 calls with fixed seeds: each answer must be that of PlainCascade. All promises. */
public final class RandomRunsTest {
    private static final int RUNS = 400;
    private static final int CALLS = 512;

    private static String at;

    public static void main(String[] args) {
        for (int run = 0; run < RUNS; run++) {
            oneRun(run);
        }
        Check.end("RandomRunsTest");
    }

    private static void oneRun(int run) {
        Random dice = new Random(run);
        BoilerCascade x = new BoilerCascade();
        PlainCascade y = new PlainCascade();
        int calls = 0;
        if (run % 4 != 0) {
            calls += writeText(run, dice, x, y);
        }
        for (; calls < CALLS; calls++) {
            at = "run " + run + ", call " + calls + ": ";
            if (dice.nextInt(60) == 0 && calls < CALLS - 60) {
                calls += writeText(run, dice, x, y);
            } else if (dice.nextInt(5) < 2) {
                action(dice, x, y);
            } else {
                question(dice, x, y);
            }
        }
        wholePicture(x, y);
    }

    private static void same(String call, Check.Call one, Check.Call other) {
        Check.due(at + call, Check.outcome(one), Check.outcome(other));
    }

    /** Mostly in the range, now and then just beyond it or far away. */
    private static int pick(Random dice, int least, int most) {
        int kind = dice.nextInt(40);
        if (kind == 0) {
            return least - 1;
        }
        if (kind == 1) {
            return most + 1;
        }
        if (kind == 2) {
            return dice.nextInt();
        }
        return least + dice.nextInt(most - least + 1);
    }

    private static int writeText(int run, Random dice, BoilerCascade x, PlainCascade y) {
        String text = randomText(dice);
        at = "run " + run + ", text " + text + ": ";
        same("clearText()", () -> x.clearText(), () -> y.clearText());
        for (int k = 0; k < text.length(); k++) {
            int c = text.charAt(k);
            same("append(" + c + ")", () -> x.append(c), () -> y.append(c));
        }
        same("errorPosition()", () -> x.errorPosition(), () -> y.errorPosition());
        same("load()", () -> x.load(), () -> y.load());
        wholePicture(x, y);
        return text.length() + 3;
    }

    private static String two(int v) {
        return (v < 10 ? "0" : "") + v;
    }

    private static String randomText(Random dice) {
        int layers = 2 + dice.nextInt(7);
        StringBuilder s = new StringBuilder("H").append(layers);
        s.append(two(dice.nextInt(100))).append(two(dice.nextInt(100)));
        int boilers = 1 + dice.nextInt(5);
        for (int i = 0; i < boilers; i++) {
            s.append('b').append(two(1 + dice.nextInt(30))).append(dice.nextInt(2));
        }
        if (dice.nextBoolean()) {
            int[] t = dice.ints(layers, 0, 100).sorted().toArray();
            s.append('t');
            for (int v : t) {
                s.append(two(v));
            }
        }
        if (dice.nextInt(6) == 0) {
            spoil(dice, s);
        }
        return s.toString();
    }

    private static void spoil(Random dice, StringBuilder s) {
        int k = dice.nextInt(s.length());
        switch (dice.nextInt(4)) {
            case 0:
                s.setLength(k);
                break;
            case 1:
                s.setCharAt(k, "Hbt0123456789 \u00ff".charAt(dice.nextInt(15)));
                break;
            case 2:
                s.insert(k, "Hbt0123456789".charAt(dice.nextInt(13)));
                break;
            default:
                s.append("bt07".charAt(dice.nextInt(4)));
        }
    }

    private static void action(Random dice, BoilerCascade x, PlainCascade y) {
        int i = pick(dice, 0, Math.max(0, y.about(6) - 1));
        int f = pick(dice, 0, 1);
        switch (dice.nextInt(14)) {
            case 0:
            case 1:
            case 2:
            case 3: {
                int m = dice.nextInt(3) == 0 ? pick(dice, 1, 96) : pick(dice, 1, 5);
                int d = dice.nextBoolean() ? 0 : pick(dice, 0, 5);
                same("tick(" + m + ", " + d + ")", () -> x.tick(m, d), () -> y.tick(m, d));
                break;
            }
            case 4: {
                int times = pick(dice, 1, 20);
                same("draw(" + times + ")", () -> x.draw(times), () -> y.draw(times));
                break;
            }
            case 5:
            case 6: {
                int what = pick(dice, 0, 5);
                int[] least = {40, 1, 1, 60, 1, 0};
                int[] most = {80, 9, 5, 90, 9, 23};
                int v = what < 0 || what > 5 ? 60 : pick(dice, least[what], most[what]);
                same("set(" + what + ", " + v + ")", () -> x.set(what, v), () -> y.set(what, v));
                break;
            }
            case 7: {
                boolean open = dice.nextInt(3) != 0;
                same("setFlue(" + f + ", " + open + ")", () -> x.setFlue(f, open), () -> y.setFlue(f, open));
                break;
            }
            case 8: {
                int draft = pick(dice, 0, 99);
                same("setDraft(" + f + ", " + draft + ")", () -> x.setDraft(f, draft), () -> y.setDraft(f, draft));
                break;
            }
            case 9:
                same("lock(" + i + ")", () -> x.lock(i), () -> y.lock(i));
                break;
            case 10:
                same("unlock(" + i + ")", () -> x.unlock(i), () -> y.unlock(i));
                break;
            case 11:
                same("putOff(" + i + ")", () -> x.putOff(i), () -> y.putOff(i));
                break;
            case 12:
                for (int k = dice.nextInt(3); k >= 0; k--) {
                    same("undo()", () -> x.undo(), () -> y.undo());
                }
                break;
            default: {
                int slot = pick(dice, 0, 1);
                boolean saves = dice.nextInt(3) != 0;
                same(saves ? "save(" + slot + ")" : "restore(" + slot + ")",
                        () -> saves ? x.save(slot) : x.restore(slot), () -> saves ? y.save(slot) : y.restore(slot));
            }
        }
        wholePicture(x, y);
    }

    private static void question(Random dice, BoilerCascade x, PlainCascade y) {
        int m = pick(dice, 1, 96);
        int d = pick(dice, 0, 5);
        switch (dice.nextInt(11)) {
            case 0: {
                int heat = pick(dice, 1, dice.nextBoolean() ? 60 : 150);
                same("smallestSet(" + heat + ", true)", () -> x.smallestSet(heat, true), () -> y.smallestSet(heat, true));
                same("smallestSet(" + heat + ", false)", () -> x.smallestSet(heat, false),
                        () -> y.smallestSet(heat, false));
                break;
            }
            case 1: {
                int what = pick(dice, 0, 6);
                same("ahead(" + m + ", " + d + ", " + what + ")", () -> x.ahead(m, d, what), () -> y.ahead(m, d, what));
                break;
            }
            case 2: {
                int t = pick(dice, 0, 99);
                same("warmAfter(" + t + ", " + d + ")", () -> x.warmAfter(t, d), () -> y.warmAfter(t, d));
                break;
            }
            case 3: {
                int least = pick(dice, 10, 80);
                same("bearable(" + m + ", " + least + ")", () -> x.bearable(m, least), () -> y.bearable(m, least));
                break;
            }
            case 4:
                same("cheapestPurge(" + m + ", " + d + ")", () -> x.cheapestPurge(m, d), () -> y.cheapestPurge(m, d));
                break;
            case 5:
            case 6:
            case 7: {
                int n = pick(dice, 1, 3);
                long script = randomScript(dice, Math.min(3, Math.max(1, n)));
                same("runScript(" + n + ", " + script + ")", () -> x.runScript(n, script), () -> y.runScript(n, script));
                break;
            }
            case 8: {
                long seed = dice.nextLong();
                same("simulate(" + seed + ", " + m + ")", () -> x.simulate(seed, m), () -> y.simulate(seed, m));
                break;
            }
            case 9: {
                int i = pick(dice, 0, 4);
                int what = pick(dice, 0, 7);
                same("boiler(" + i + ", " + what + ")", () -> x.boiler(i, what), () -> y.boiler(i, what));
                same("whyNot(" + i + ")", () -> x.whyNot(i), () -> y.whyNot(i));
                same("layer(" + what + ")", () -> x.layer(what), () -> y.layer(what));
                break;
            }
            default: {
                int f = pick(dice, 0, 1);
                int what = pick(dice, 0, 3);
                int number = pick(dice, 0, 16);
                same("flue(" + f + ", " + what + ")", () -> x.flue(f, what), () -> y.flue(f, what));
                same("about(" + number + ")", () -> x.about(number), () -> y.about(number));
                same("account(" + number + ")", () -> x.account(number), () -> y.account(number));
                same("next()", () -> x.next(), () -> y.next());
            }
        }
    }

    private static long randomScript(Random dice, int n) {
        long script = 0;
        for (int k = 0; k < n; k++) {
            script = script * 100_000 + randomGroup(dice);
        }
        int kind = dice.nextInt(40);
        if (kind == 0) {
            return dice.nextLong();
        }
        return kind == 1 ? script * 10 + 99_999 : script;
    }

    private static int randomGroup(Random dice) {
        int boiler = dice.nextInt(5);
        int spoiled = dice.nextInt(25) == 0 ? 10 * dice.nextInt(1000) : 0;
        int[] least = {40, 1, 1, 60, 1, 0};
        int[] most = {80, 9, 5, 90, 9, 23};
        switch (dice.nextInt(10)) {
            case 0:
            case 1:
                return 10_000 + 1000 * dice.nextInt(7) + dice.nextInt(99) + spoiled;
            case 2:
                return 20_000 + dice.nextInt(22) + spoiled;
            case 3: {
                int w = dice.nextInt(6);
                return 30_000 + 1000 * w + least[w] + dice.nextInt(most[w] - least[w] + 2) + spoiled;
            }
            case 4:
                return 40_000 + 1000 * dice.nextInt(dice.nextInt(5) == 0 ? 10 : 2) + dice.nextInt(2) + spoiled;
            case 5:
                return 50_000 + 1000 * boiler + spoiled;
            case 6:
                return 60_000 + 1000 * boiler + spoiled;
            case 7:
                return 70_000 + dice.nextInt(70) + spoiled;
            case 8:
                return 80_000 + 1000 * boiler + dice.nextInt(5) + spoiled;
            default:
                return dice.nextInt(10) == 0 ? dice.nextInt(100_000) : 90_000 + dice.nextInt(3) + spoiled;
        }
    }

    private static void wholePicture(BoilerCascade x, PlainCascade y) {
        for (int k = 0; k <= 16; k++) {
            int what = k;
            same("about(" + what + ")", () -> x.about(what), () -> y.about(what));
        }
        for (int k = 0; k <= 5; k++) {
            int i = k;
            same("account(" + i + ")", () -> x.account(i), () -> y.account(i));
            same("whyNot(" + i + ")", () -> x.whyNot(i), () -> y.whyNot(i));
            for (int w = 0; w <= 7; w++) {
                int what = w;
                same("boiler(" + i + ", " + what + ")", () -> x.boiler(i, what), () -> y.boiler(i, what));
            }
        }
        for (int k = 0; k <= 8; k++) {
            int j = k;
            same("layer(" + j + ")", () -> x.layer(j), () -> y.layer(j));
            same("flue(" + j / 4 + ", " + j % 4 + ")", () -> x.flue(j / 4, j % 4), () -> y.flue(j / 4, j % 4));
        }
        same("next()", () -> x.next(), () -> y.next());
    }
}
