import java.lang.reflect.InvocationTargetException;
import java.lang.reflect.Method;
import java.util.ArrayList;
import java.util.List;
import java.util.Set;
import java.util.regex.Matcher;
import java.util.regex.Pattern;

/**
 * A test for one sentence of the document: a run of calls on a new object, a line each, with the answer
 * that is due.
 *
 * <p>The same run is made on PlainCascade, so that an answer that was worked out wrongly shows. And it is
 * made once more without its refused calls and its questions: whatever can be asked for behind it,
 * remembered states, save slots and text included, must be the same then, since these calls change nothing.
 *
 * <p>Lines: "name(arguments)", "name(arguments) = answer", "3 x name(arguments) = answer", "write TEXT"
 * (clears and appends), "load TEXT" (and loads), "layers = .." and "boilers WHAT = .." for a number of
 * each layer or boiler, "# .." for a remark. An answer is a number, NONE or the name of an exception.
 */
final class Edge {
    private static final Pattern CALL = Pattern.compile("(?:(\\d+) x )?(\\w+)\\(([^)]*)\\)(?: = (\\S+))?");
    private static final Set<String> QUESTIONS = Set.of("errorPosition", "about", "boiler", "flue", "layer",
        "account", "next", "whyNot", "smallestSet", "ahead", "warmAfter", "bearable", "cheapestPurge", "runScript",
        "simulate");
    private static final int MOST_REMEMBERED = 14;

    private Edge() {
    }

    static void edge(String sentence, String run) {
        List<String> lines = new ArrayList<>();
        List<String> changing = new ArrayList<>();
        for (String written : run.split("\n")) {
            String line = written.strip();
            if (!line.isEmpty() && !line.startsWith("#")) {
                lines.add(line);
                if (changes(line)) {
                    changing.add(line);
                }
            }
        }
        play(sentence, new BoilerCascade(), lines);
        play(sentence + " (the plain program)", new PlainCascade(), lines);
        if (changing.size() < lines.size()) {
            Check.due(sentence + ": what can be asked for behind it", behind(lines), behind(changing));
        }
    }

    private static boolean changes(String line) {
        if (line.startsWith("layers ") || line.startsWith("boilers ")) {
            return false;
        }
        Matcher call = CALL.matcher(line);
        if (!call.matches()) {
            return true;
        }
        boolean isRefused = call.group(4) != null && !call.group(4).matches("-?\\d+|NONE");
        return !isRefused && !QUESTIONS.contains(call.group(2));
    }

    private static void play(String sentence, Object x, List<String> lines) {
        for (int k = 0; k < lines.size(); k++) {
            String line = lines.get(k);
            String at = sentence + ": line " + (k + 1) + ", " + line;
            if (line.startsWith("write ") || line.startsWith("load ")) {
                readText(at, x, line);
            } else if (line.startsWith("layers = ")) {
                Check.due(at, row(x, "about", "7", "layer", ""), line.substring(9));
            } else if (line.startsWith("boilers ")) {
                String due = line.substring(line.indexOf('=') + 2);
                Check.due(at, row(x, "about", "6", "boiler", ", " + line.charAt(8)), due);
            } else {
                playCall(at, x, line);
            }
        }
    }

    private static void readText(String at, Object x, String line) {
        answer(x, "clearText", "");
        String text = line.substring(line.indexOf(' ') + 1);
        for (int k = 0; k < text.length(); k++) {
            answer(x, "append", Integer.toString(text.charAt(k)));
        }
        if (line.startsWith("load ")) {
            Check.due(at + " is loaded", answer(x, "load", "").startsWith("throws.") ? 0 : 1, 1);
        }
    }

    private static String row(Object x, String counter, String what, String name, String rest) {
        int count = Integer.parseInt(answer(x, counter, what));
        List<String> answers = new ArrayList<>();
        for (int k = 0; k < count; k++) {
            answers.add(answer(x, name, k + rest));
        }
        return String.join(" ", answers);
    }

    private static void playCall(String at, Object x, String line) {
        Matcher call = CALL.matcher(line);
        if (!call.matches()) {
            throw new IllegalArgumentException("not a line of a run: " + line);
        }
        int times = call.group(1) == null ? 1 : Integer.parseInt(call.group(1));
        for (int k = 0; k < times; k++) {
            String got = answer(x, call.group(2), call.group(3));
            if (call.group(4) != null) {
                Check.due(at, got, dueAnswer(call.group(4)));
            } else {
                Check.due(at + " is taken", got.startsWith("throws.") ? got : "taken", "taken");
            }
        }
    }

    private static String dueAnswer(String written) {
        if (written.equals("NONE")) {
            return "-9";
        }
        return written.matches("-?\\d+") ? written : "throws." + written + "Exception";
    }

    private static String answer(Object x, String name, String arguments) {
        for (Method m : x.getClass().getDeclaredMethods()) {
            if (m.getName().equals(name)) {
                return answer(x, m, arguments);
            }
        }
        throw new IllegalArgumentException("no such method: " + name);
    }

    private static String answer(Object x, Method m, String arguments) {
        String[] words = arguments.isEmpty() ? new String[0] : arguments.split(", *");
        Object[] values = new Object[words.length];
        for (int k = 0; k < words.length; k++) {
            Class<?> type = m.getParameterTypes()[k];
            String word = words[k].replace("_", "");
            values[k] = type == boolean.class ? (Object) Boolean.valueOf(word)
                    : type == long.class ? (Object) Long.valueOf(word) : (Object) Integer.valueOf(word);
        }
        try {
            return String.valueOf(m.invoke(x, values));
        } catch (InvocationTargetException e) {
            return "throws." + e.getCause().getClass().getSimpleName();
        } catch (IllegalAccessException e) {
            throw new IllegalStateException(e);
        }
    }

    /** Each part is asked for on an object of its own: asking for it takes back, restores or loads. */
    private static String behind(List<String> lines) {
        StringBuilder s = new StringBuilder();
        for (int undone = 0; undone <= MOST_REMEMBERED + 1; undone++) {
            BoilerCascade x = played(lines);
            String last = "";
            for (int k = 0; k < undone; k++) {
                last = Check.outcome(() -> x.undo());
            }
            s.append("\nundone ").append(undone).append(": ").append(last).append(' ').append(Check.picture(x));
            if (last.startsWith("throws.")) {
                break;
            }
        }
        for (int slot = 0; slot <= 1; slot++) {
            int chosen = slot;
            BoilerCascade x = played(lines);
            s.append("\nrestored: ").append(Check.outcome(() -> x.restore(chosen))).append(' ');
            s.append(Check.picture(x));
        }
        BoilerCascade x = played(lines);
        s.append("\nloaded: ").append(Check.outcome(() -> x.load())).append(' ').append(Check.picture(x));
        return s.append(' ').append(x.clearText()).toString();
    }

    private static BoilerCascade played(List<String> lines) {
        BoilerCascade x = new BoilerCascade();
        for (String line : lines) {
            if (line.startsWith("write ") || line.startsWith("load ")) {
                readText(line, x, line);
                continue;
            }
            Matcher call = CALL.matcher(line);
            int times = !call.matches() ? 0 : call.group(1) == null ? 1 : Integer.parseInt(call.group(1));
            for (int k = 0; k < times; k++) {
                answer(x, call.group(2), call.group(3));
            }
        }
        return x;
    }
}
