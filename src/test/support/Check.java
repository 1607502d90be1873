/** What the tests share: they count and print each answer that is not due, and end with 1 if there was one. */
final class Check {
    interface Call {
        long answer();
    }

    private static int wrong = 0;
    private static int asked = 0;

    private Check() {
    }

    static void due(String call, long got, long want) {
        asked++;
        if (got != want) {
            wrong++;
            System.out.println(call + " answered " + got + ", due is " + want);
        }
    }

    static void due(String call, String got, String want) {
        asked++;
        if (!got.equals(want)) {
            wrong++;
            System.out.println(call + " answered " + got + ", due is " + want);
        }
    }

    static void outOfBounds(String call, Call run) {
        due(call, outcome(run), "throws.IndexOutOfBoundsException");
    }

    static void badArgument(String call, Call run) {
        due(call, outcome(run), "throws.IllegalArgumentException");
    }

    static void badState(String call, Call run) {
        due(call, outcome(run), "throws.IllegalStateException");
    }

    /** The answer, or throws. and the name of just the class that is thrown. */
    static String outcome(Call run) {
        try {
            return Long.toString(run.answer());
        } catch (RuntimeException e) {
            return "throws." + e.getClass().getSimpleName();
        }
    }

    static void end(String name) {
        System.out.println(name + ": " + asked + " answers, " + wrong + " of them not due");
        if (wrong != 0 || asked == 0) {
            System.exit(1);
        }
    }

    static void write(BoilerCascade x, String text) {
        x.clearText();
        for (int i = 0; i < text.length(); i++) {
            x.append(text.charAt(i));
        }
    }

    static BoilerCascade loaded(String text) {
        BoilerCascade x = new BoilerCascade();
        write(x, text);
        x.load();
        return x;
    }

    /** All that the methods that change nothing tell in a few numbers, to see that nothing changed. */
    static String picture(BoilerCascade x) {
        StringBuilder s = new StringBuilder();
        for (int what = 0; what <= 16; what++) {
            s.append(x.about(what)).append(' ');
        }
        s.append("| ");
        for (int i = 0; i < x.about(6); i++) {
            for (int what = 0; what <= 7; what++) {
                s.append(x.boiler(i, what)).append(' ');
            }
            s.append("/ ");
        }
        for (int f = 0; f < 2; f++) {
            for (int what = 0; what <= 3; what++) {
                s.append(x.flue(f, what)).append(' ');
            }
        }
        s.append("| ").append(layers(x)).append(" | ");
        for (int what = 0; what <= 5; what++) {
            s.append(x.account(what)).append(' ');
        }
        return s.append(x.errorPosition()).toString();
    }

    static String layers(BoilerCascade x) {
        StringBuilder s = new StringBuilder();
        for (int j = 0; j < x.about(7); j++) {
            s.append(j == 0 ? "" : " ").append(x.layer(j));
        }
        return s.toString();
    }
}
