/** Promises 6 to 10: about, boiler, flue, layer, account. */
public final class WhatThereIsTest {
    private static final int[] FAR = {Integer.MIN_VALUE, -1, 1000, Integer.MAX_VALUE};

    public static void main(String[] args) {
        about();
        boiler();
        canStartByItsFlue();
        flue();
        layer();
        account();
        wrongNumbers();
        Check.end("WhatThereIsTest");
    }

    private static void about() {
        BoilerCascade x = Check.loaded("H35050b200b101b051t404141");
        Check.due("n", x.about(6), 3);
        Check.due("L", x.about(7), 3);
        Check.due("a mean is rounded down", x.about(9), 40);
        int[] values = {79, 8, 4, 89, 8, 1};
        for (int what = 0; what <= 5; what++) {
            x.set(what, values[what]);
            Check.due("setting " + what, x.about(what), values[what]);
        }
        x.set(2, 1);
        x.tick(1, 0);
        Check.due("the clock", x.about(8), 1);
        Check.due("no kill goes on", x.about(11), 0);
        Check.due("none fires but one is ready", x.about(16), 1);
        x.tick(1, 0);
        Check.due("a kill goes on", x.about(11), 1);
        Check.due("its ticks", x.about(13), 1);
        Check.due("its run", x.about(12), 0);
        Check.due("two fire", x.about(16), 2);
        x.setFlue(1, false);
        Check.due("one fires", x.about(16), 1);
        Check.due("the reason of the last tick", x.about(10), 0);
        x.tick(1, 0);
        Check.due("the reason then", x.about(10), 2);
    }

    private static void boiler() {
        BoilerCascade x = Check.loaded("H29999b010b251t2020");
        x.set(2, 3);
        x.tick(2, 0);
        int[] first = {1, 0, 1, 1, 0, 1, 0, 1};
        int[] second = {25, 1, 1, 2, 0, 1, 0, 1};
        for (int what = 0; what <= 7; what++) {
            Check.due("boiler(0, " + what + ")", x.boiler(0, what), first[what]);
            Check.due("boiler(1, " + what + ")", x.boiler(1, what), second[what]);
        }
        x.tick(3, 0);
        int[] firstThen = {1, 0, 2, 0, 2, 1, 2, 1};
        int[] secondThen = {25, 1, 2, 0, 1, 1, 25, 1};
        for (int what = 0; what <= 7; what++) {
            Check.due("then boiler(0, " + what + ")", x.boiler(0, what), firstThen[what]);
            Check.due("then boiler(1, " + what + ")", x.boiler(1, what), secondThen[what]);
        }
        x.lock(0);
        Check.due("locked", x.boiler(0, 2), 4);
    }

    private static void canStartByItsFlue() {
        BoilerCascade x = Check.loaded("H25000b250b010b301");
        Check.due("25 of 50", x.boiler(0, 7), 1);
        Check.due("30 of 0", x.boiler(2, 7), 0);
        x.setDraft(1, 29);
        Check.due("30 of 29", x.boiler(2, 7), 0);
        x.setDraft(1, 30);
        Check.due("30 of 30", x.boiler(2, 7), 1);
        x.tick(1, 0);
        Check.due("it purges, and counts once more: 25 + 25 of 50", x.boiler(0, 7), 1);
        Check.due("25 + 1 of 50", x.boiler(1, 7), 1);
        x.setDraft(0, 49);
        Check.due("25 + 25 of 49", x.boiler(0, 7), 0);
        x.setDraft(0, 25);
        Check.due("25 + 1 of 25", x.boiler(1, 7), 0);
        x.lock(1);
        x.setDraft(0, 26);
        Check.due("locked, 25 + 1 of 26", x.boiler(1, 7), 1);
        x.setFlue(0, false);
        Check.due("shut", x.boiler(1, 7), 0);
        x.setFlue(0, true);
        Check.due("open", x.boiler(1, 7), 1);
    }

    private static void flue() {
        BoilerCascade x = Check.loaded("H23040b100b111b120b131t2020");
        int[][] due = {{30, 0, 1, 2}, {40, 0, 1, 2}};
        for (int f = 0; f < 2; f++) {
            for (int what = 0; what < 4; what++) {
                Check.due("flue(" + f + ", " + what + ")", x.flue(f, what), due[f][what]);
            }
        }
        x.tick(3, 0);
        Check.due("use 0: one fires, one purges", x.flue(0, 1), 22);
        Check.due("use 1", x.flue(1, 1), 11);
        x.lock(2);
        Check.due("use without the locked one", x.flue(0, 1), 10);
        Check.due("it counts as a boiler of the flue", x.flue(0, 3), 2);
        x.setFlue(1, false);
        Check.due("use of a shut flue", x.flue(1, 1), 0);
        Check.due("shut", x.flue(1, 2), 0);
        BoilerCascade y = Check.loaded("H29999b100t3030");
        y.tick(3, 0);
        y.set(0, 40);
        y.set(1, 1);
        y.set(5, 20);
        Check.due("use while it fires", y.flue(0, 1), 10);
        BoilerCascade z = Check.loaded("H29999b300t3030");
        z.tick(5, 0);
        Check.due("use while it fires", z.flue(0, 1), 30);
        z.set(3, 60);
        z.set(1, 1);
        z.tick(3, 0);
        Check.due("it is on standby", z.boiler(0, 2), 3);
        Check.due("use on standby", z.flue(0, 1), 0);
    }

    private static void layer() {
        BoilerCascade x = Check.loaded("H89999b010t0011223344556699");
        for (int j = 0; j < 7; j++) {
            Check.due("layer(" + j + ")", x.layer(j), 11 * j);
        }
        Check.due("layer(7)", x.layer(7), 99);
        Check.outOfBounds("layer(8)", () -> x.layer(8));
        Check.outOfBounds("layer(-1)", () -> x.layer(-1));
        BoilerCascade y = new BoilerCascade();
        Check.outOfBounds("layer(4) of four", () -> y.layer(4));
        Check.due("layer(3) of four", y.layer(3), 40);
    }

    private static void account() {
        BoilerCascade x = new BoilerCascade();
        x.tick(3, 0);
        int[] due = {10, 0, 0, 8, 10, 0};
        for (int what = 0; what <= 5; what++) {
            Check.due("account(" + what + ")", x.account(what), due[what]);
        }
        x.draw(3);
        int[] then = {10, 30, 122, 8, 10, 3};
        for (int what = 0; what <= 5; what++) {
            Check.due("then account(" + what + ")", x.account(what), then[what]);
        }
    }

    private static void wrongNumbers() {
        BoilerCascade x = Check.loaded("H29999b010b010");
        Check.badArgument("about(17)", () -> x.about(17));
        Check.badArgument("boiler(1, 8)", () -> x.boiler(1, 8));
        Check.badArgument("flue(1, 4)", () -> x.flue(1, 4));
        Check.badArgument("account(6)", () -> x.account(6));
        Check.outOfBounds("boiler(2, 0)", () -> x.boiler(2, 0));
        Check.outOfBounds("flue(2, 0)", () -> x.flue(2, 0));
        for (int v : FAR) {
            Check.badArgument("about(" + v + ")", () -> x.about(v));
            Check.badArgument("account(" + v + ")", () -> x.account(v));
            Check.badArgument("boiler(0, " + v + ")", () -> x.boiler(0, v));
            Check.outOfBounds("boiler(" + v + ", 0)", () -> x.boiler(v, 0));
            Check.outOfBounds("boiler(" + v + ", 99)", () -> x.boiler(v, 99));
            Check.badArgument("flue(0, " + v + ")", () -> x.flue(0, v));
            Check.outOfBounds("flue(" + v + ", 0)", () -> x.flue(v, 0));
            Check.outOfBounds("flue(" + v + ", 99)", () -> x.flue(v, 99));
            Check.outOfBounds("layer(" + v + ")", () -> x.layer(v));
        }
    }
}
