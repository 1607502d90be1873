/** Promises 2 to 5: append, clearText, errorPosition, load. */
public final class TextTest {
    private static final int NONE = BoilerCascade.NONE;
    private static final String FIVE = "b100b101b010b301b200";

    public static void main(String[] args) {
        appendAndClear();
        errorPositions();
        everySignOfAText();
        everyNumber();
        theTextIsReadAnew();
        loads();
        loadForgets();
        loadForgetsKills();
        loadThatThrowsChangesNothing();
        Check.end("TextTest");
    }

    private static void appendAndClear() {
        BoilerCascade x = new BoilerCascade();
        Check.badArgument("append(-1)", () -> x.append(-1));
        Check.badArgument("append(256)", () -> x.append(256));
        Check.badArgument("append(least int)", () -> x.append(Integer.MIN_VALUE));
        Check.due("append(0)", x.append(0), 1);
        Check.due("append(255)", x.append(255), 2);
        for (int k = 3; k <= 60; k++) {
            Check.due("append to " + k, x.append('b'), k);
        }
        Check.badState("append to 61", () -> x.append('b'));
        Check.badArgument("append(256) to a full text", () -> x.append(256));
        Check.badArgument("append(-1) to a full text", () -> x.append(-1));
        Check.due("clearText() of a full text", x.clearText(), 60);
        Check.due("clearText() of an empty text", x.clearText(), 0);
        Check.due("append after clearText", x.append('H'), 1);
        Check.due("errorPosition() of H", x.errorPosition(), 1);
        Check.due("clearText()", x.clearText(), 1);
    }

    private static void error(String text, int want) {
        BoilerCascade x = new BoilerCascade();
        Check.write(x, text);
        Check.due("errorPosition() of " + text, x.errorPosition(), want);
        Check.due("the length of " + text, x.clearText(), text.length());
    }

    private static void errorPositions() {
        error("", 0);
        error("h", 0);
        error("4", 0);
        error(" H45050b100", 0);
        error("H", 1);
        error("H1", 1);
        error("H9", 1);
        error("H2", 2);
        error("H8", 2);
        error("H4a", 2);
        error("H4505", 5);
        error("H4505b", 5);
        error("H45050", 6);
        error("H45050t", 6);
        error("H450500", 6);
        error("H45050b", 7);
        error("H45050b4", 7);
        error("H45050b0", 8);
        error("H45050b00", 8);
        error("H45050b01", 9);
        error("H45050b3", 8);
        error("H45050b31", 8);
        error("H45050b30", 9);
        error("H45050b302", 9);
        error("H45050b30b", 9);
        error("H45050b300", NONE);
        error("H45050b010", NONE);
        error("H40099b291", NONE);
        error("H45050b300x", 10);
        error("H45050b300 ", 10);
        error("H45050b3000", 10);
        error("H45050" + FIVE, NONE);
        error("H45050" + FIVE + "b", 26);
        error("H45050" + FIVE + "t", 27);
        error("H45050" + FIVE + "t00010203", NONE);
        error("H89999" + FIVE + "t0000000000000000", NONE);
        error("H89999" + FIVE + "t00000000000000000", 43);
        error("H25050b100t", 11);
        error("H25050b100t4", 12);
        error("H25050b100t45", 13);
        error("H25050b100tb", 11);
        error("H25050b100t4539", 13);
        error("H25050b100t4544", 14);
        error("H25050b100t454", 14);
        error("H25050b100t4545", NONE);
        error("H25050b100t4546", NONE);
        error("H25050b100t4550", NONE);
        error("H25050b100t45450", 15);
        error("H25050b100t4545b", 15);
        error("H25050b100t9999", NONE);
        error("H25050b100t9998", 14);
        error("H25050b100t998", 13);
        error("H25050b100t0000", NONE);
        error("H35050b100t405060", NONE);
        error("H35050b100t4050", 15);
        error("H35050b100t4050t", 15);
        error("H35050b100tt", 11);
        error("H45050b100b", 11);
        error("H45050b100H", 10);
        error("H45050b1\u00ff", 8);
        error("H45050b100\u0000", 10);
    }

    /** Each place of a text with each sign: the sign is wrong just there, or nothing is wrong up to there. */
    private static void everySignOfAText() {
        String text = "H35050b100b301t405060";
        String[] allowed = {"H", "2345678", "0123456789", "0123456789", "0123456789", "0123456789", "b", "0123",
            "0123456789", "01", "bt", "0123", "0", "01", "bt", "0123456789", "0123456789", "456789", "0123456789",
            "56789", "0123456789"};
        for (int k = 0; k < text.length(); k++) {
            for (int c = 0; c < 256; c++) {
                BoilerCascade x = new BoilerCascade();
                Check.write(x, text.substring(0, k));
                x.append(c);
                boolean good = c != 0 && allowed[k].indexOf(c) >= 0;
                // a text that ends behind a boiler is whole
                boolean whole = good && (k == 9 || k == 13 || k == 20);
                Check.due("errorPosition() with " + c + " at " + k, x.errorPosition(), whole ? NONE : good ? k + 1 : k);
            }
        }
    }

    private static String two(int v) {
        return (v < 10 ? "0" : "") + v;
    }

    private static void everyNumber() {
        for (int v = 0; v <= 99; v++) {
            int wrongPower = v >= 40 ? 7 : 8;
            error("H2" + two(v) + two(99 - v) + "b100", NONE);
            error("H25050b" + two(v) + "1", v >= 1 && v <= 30 ? NONE : wrongPower);
            for (int w = 0; w <= 99; w++) {
                int wrong = w / 10 < v / 10 ? 13 : 14;
                error("H25050b100t" + two(v) + two(w), w >= v ? NONE : wrong);
            }
        }
    }

    /** What was read before leaves no trace in what is read now. */
    private static void theTextIsReadAnew() {
        BoilerCascade x = new BoilerCascade();
        Check.write(x, "H45050b310");
        Check.due("a wrong text", x.errorPosition(), 8);
        Check.write(x, "H35050b300b101t102030");
        Check.due("a right one", x.errorPosition(), NONE);
        Check.due("load()", x.load(), 2);
        Check.due("layers", Check.layers(x), "10 20 30");
        Check.write(x, "H35050b300");
        Check.due("load() without t", x.load(), 1);
        Check.due("layers", Check.layers(x), "40 40 40");
        Check.write(x, "H85050b300b300b300t01");
        Check.due("it ends too soon", x.errorPosition(), 21);
        Check.due("reading alone changes nothing", x.about(6), 1);
        Check.due("layers", Check.layers(x), "40 40 40");
    }

    private static void loads() {
        BoilerCascade x = new BoilerCascade();
        Check.write(x, "H30799b010b301b150t008099");
        Check.due("load()", x.load(), 3);
        Check.due("n", x.about(6), 3);
        Check.due("L", x.about(7), 3);
        Check.due("the layers", Check.layers(x), "0 80 99");
        Check.due("draft 0", x.flue(0, 0), 7);
        Check.due("draft 1", x.flue(1, 0), 99);
        int[] powers = {1, 30, 15};
        int[] flues = {0, 1, 0};
        for (int i = 0; i < 3; i++) {
            Check.due("power of " + i, x.boiler(i, 0), powers[i]);
            Check.due("flue of " + i, x.boiler(i, 1), flues[i]);
            for (int what = 2; what <= 6; what++) {
                Check.due("boiler(" + i + ", " + what + ")", x.boiler(i, what), 0);
            }
        }
        Check.due("the text is kept", x.errorPosition(), NONE);
        Check.due("its length", x.clearText(), 25);
        Check.badState("load() of an empty text", () -> x.load());
        Check.due("still three boilers", x.about(6), 3);
        BoilerCascade y = Check.loaded("H89999b010");
        Check.due("eight layers without t", Check.layers(y), "40 40 40 40 40 40 40 40");
        Check.outOfBounds("layer(8)", () -> y.layer(8));
        Check.write(y, "H25050b010");
        Check.due("load() again", y.load(), 1);
        Check.due("two layers", Check.layers(y), "40 40");
        Check.outOfBounds("layer(2)", () -> y.layer(2));
        Check.write(y, "H25050" + FIVE);
        Check.due("load() of five", y.load(), 5);
    }

    private static void loadForgets() {
        String text = "H35050b100b201t304050";
        BoilerCascade x = Check.loaded(text);
        for (int what = 0; what <= 5; what++) {
            x.set(what, x.about(what) + 1);
        }
        x.set(5, 0);
        x.tick(40, 1);
        x.lock(0);
        x.setFlue(0, false);
        x.setFlue(1, false);
        x.setDraft(0, 3);
        x.save(0);
        x.save(1);
        x.restore(0);
        x.tick(1, 0);
        x.save(0);
        x.set(5, x.about(8) % 24);
        x.set(4, 1);
        x.set(3, 60);
        x.setFlue(0, true);
        x.setDraft(0, 99);
        x.tick(20, 0);
        x.set(3, 90);
        x.set(5, x.about(8) % 24);
        x.setFlue(1, false);
        x.setFlue(0, false);
        x.tick(1, 0);
        Check.due("a kill is done or failed", x.about(14) + x.about(15) > 0 ? 1 : 0, 1);
        Check.due("a kill goes on", x.about(13), 1);
        Check.due("reason", x.about(10) > 0 ? 1 : 0, 1);
        Check.due("load()", x.load(), 2);
        Check.due("everything as at first", Check.picture(x), Check.picture(Check.loaded(text)));
        Check.badState("undo() after load()", () -> x.undo());
        Check.badState("restore(0) after load()", () -> x.restore(0));
        Check.badState("restore(1) after load()", () -> x.restore(1));
        x.save(1);
        Check.due("restore(1) after save(1)", x.restore(1), 0);
    }

    private static void loadForgetsKills() {
        BoilerCascade x = Check.loaded("H20000b010t9090");
        x.set(5, 0);
        x.set(4, 1);
        x.tick(1, 0);
        x.set(4, 9);
        x.set(5, 1);
        x.tick(2, 0);
        Check.due("one is done", x.about(14), 1);
        Check.due("one goes on", x.about(12), 2);
        x.load();
        for (int what = 10; what <= 16; what++) {
            Check.due("about(" + what + ") after load()", x.about(what), 0);
        }
        x.tick(1, 0);
        x.set(5, 1);
        x.tick(1, 0);
        Check.due("the next one begins with 1", x.about(13), 1);
    }

    private static void loadThatThrowsChangesNothing() {
        BoilerCascade x = Check.loaded("H35050b100b201t304050");
        x.tick(3, 1);
        x.save(0);
        x.tick(1, 0);
        Check.write(x, "H89999b300b300b300b300t0101010101010101x");
        String before = Check.picture(x);
        Check.badState("load() of a wrong text", () -> x.load());
        Check.due("after load() that threw", Check.picture(x), before);
        Check.due("undo()", x.undo(), 1);
        Check.due("undo()", x.undo(), 0);
        Check.due("restore(0)", x.restore(0), 3);
        Check.due("clearText()", x.clearText(), 40);
    }
}
