import java.util.ArrayList;
import java.util.Arrays;
import java.util.List;
import java.util.regex.Matcher;
import java.util.regex.Pattern;

/**
 * The document once more, written without a look at speed or room and in another way than the class:
 * a state is copied whole, heat goes unit by unit, and a text is checked by a regular expression.
 */
final class PlainCascade {
    static final int NONE = -9;

    static final class State {
        int n = 1;
        int[] power = {10};
        int[] flue = {0};
        int[] state = {0};
        int[] left = {0};
        int[] fired = {0};
        int[] starts = {0};
        int[] fuel = {0};
        int[] draft = {50, 50};
        boolean[] open = {true, true};
        int[] settings = {60, 3, 2, 70, 2, 2};
        int[] t = {40, 40, 40, 40};
        int clock;
        int reason;
        boolean kill;
        int run;
        int ticks;
        int done;
        int failed;
        int given;
        int cold;
        int delivered;
        int lost;
        int draws;

        State copy() {
            State s = new State();
            s.n = n;
            s.power = power.clone();
            s.flue = flue.clone();
            s.state = state.clone();
            s.left = left.clone();
            s.fired = fired.clone();
            s.starts = starts.clone();
            s.fuel = fuel.clone();
            s.draft = draft.clone();
            s.open = open.clone();
            s.settings = settings.clone();
            s.t = t.clone();
            s.clock = clock;
            s.reason = reason;
            s.kill = kill;
            s.run = run;
            s.ticks = ticks;
            s.done = done;
            s.failed = failed;
            s.given = given;
            s.cold = cold;
            s.delivered = delivered;
            s.lost = lost;
            s.draws = draws;
            return s;
        }

        int mean() {
            return Arrays.stream(t).sum() / t.length;
        }

        int top() {
            return t[t.length - 1];
        }

        int allFuel() {
            return Arrays.stream(fuel).sum();
        }

        int use(int f) {
            int use = 0;
            for (int i = 0; i < n; i++) {
                use += flue[i] == f && (state[i] == 1 || state[i] == 2) ? power[i] : 0;
            }
            return use;
        }

        boolean canStart(int i) {
            return open[flue[i]] && use(flue[i]) + power[i] <= draft[flue[i]];
        }

        int next() {
            int best = NONE;
            for (int i = n - 1; i >= 0; i--) {
                if ((state[i] == 0 || state[i] == 3) && canStart(i) && (best == NONE || fired[i] <= fired[best])) {
                    best = i;
                }
            }
            return best;
        }

        int drawOnce() {
            int warm = top();
            for (int j = t.length - 1; j >= 1; j--) {
                t[j] = t[j - 1];
            }
            t[0] = 10;
            cold += 10;
            delivered += warm;
            draws++;
            return warm;
        }

        void tick(int drawsAhead) {
            for (int k = 0; k < drawsAhead; k++) {
                drawOnce();
            }
            if (clock % 24 == settings[5] && !kill) {
                kill = true;
                run = 0;
                ticks = 0;
            }
            int goal = kill ? settings[3] : settings[0];
            reason = 0;
            if (mean() < goal - settings[1]) {
                wantMore();
            } else if (mean() > goal + settings[1]) {
                wantLess();
            }
            int[] before = state.clone();
            for (int i = 0; i < n; i++) {
                if (before[i] == 1 && --left[i] == 0) {
                    state[i] = 2;
                }
                if (before[i] == 2) {
                    fired[i]++;
                    fuel[i] += power[i];
                    for (int u = 0; u < power[i]; u++) {
                        giveUnit();
                    }
                }
                if (before[i] == 3) {
                    fuel[i]++;
                }
            }
            for (int j = 0; j < t.length; j++) {
                int loss = t[j] > 20 ? (t[j] - 20) / 20 : 0;
                t[j] -= loss;
                lost += loss;
            }
            Arrays.sort(t);
            if (kill) {
                ticks++;
                boolean all = true;
                for (int x : t) {
                    all &= x >= settings[3];
                }
                run = all ? run + 1 : 0;
                boolean isDone = run >= settings[4];
                boolean isFailed = !isDone && ticks == 12;
                done += isDone ? 1 : 0;
                failed += isFailed ? 1 : 0;
                kill = !isDone && !isFailed;
            }
            clock++;
        }

        void wantMore() {
            int i = next();
            if (i != NONE) {
                if (state[i] == 3) {
                    state[i] = 2;
                } else {
                    state[i] = 1;
                    left[i] = settings[2];
                }
                starts[i]++;
                return;
            }
            reason = 3;
            for (int k = 0; k < n; k++) {
                if (state[k] == 0 || state[k] == 3) {
                    reason = open[flue[k]] || reason == 1 ? 1 : 2;
                }
            }
        }

        void wantLess() {
            int hot = NONE;
            for (int i = 0; i < n; i++) {
                if (state[i] == 2 && (hot == NONE || fired[i] >= fired[hot])) {
                    hot = i;
                }
            }
            if (hot != NONE) {
                state[hot] = 3;
            }
        }

        void giveUnit() {
            int low = 0;
            for (int j = 1; j < t.length; j++) {
                if (t[j] < t[low]) {
                    low = j;
                }
            }
            given++;
            if (t[low] == 99) {
                lost++;
            } else {
                t[low]++;
            }
        }

        int moveFlue(int f, boolean opens) {
            open[f] = opens;
            int off = 0;
            for (int i = 0; i < n; i++) {
                if (!opens && flue[i] == f && state[i] >= 1 && state[i] <= 3) {
                    state[i] = 0;
                    left[i] = 0;
                    off++;
                }
            }
            return off;
        }

        int countState(int wanted) {
            return (int) Arrays.stream(state).filter(s -> s == wanted).count();
        }
    }

    private String text = "";
    private State s = new State();
    private final List<State> past = new ArrayList<>();
    private final State[] slots = new State[2];

    private static void bounds(boolean good) {
        if (!good) {
            throw new IndexOutOfBoundsException();
        }
    }

    private static void argument(boolean good) {
        if (!good) {
            throw new IllegalArgumentException();
        }
    }

    private static void state(boolean good) {
        if (!good) {
            throw new IllegalStateException();
        }
    }

    private static boolean in(int x, int least, int most) {
        return x >= least && x <= most;
    }

    private void remember() {
        past.add(s.copy());
        if (past.size() > 14) {
            past.remove(0);
        }
    }

    int append(int c) {
        argument(in(c, 0, 255));
        state(text.length() < 60);
        text += (char) c;
        return text.length();
    }

    int clearText() {
        int length = text.length();
        text = "";
        return length;
    }

    /** 2 if it is a text, 1 if it could become one by more characters, 0 if not. */
    static int kindOfText(String text) {
        int best = 0;
        for (int layers = 2; layers <= 8; layers++) {
            Matcher m = Pattern.compile("H" + layers + "[0-9]{4}(b(0[1-9]|[12][0-9]|30)[01]){1,5}(t[0-9]{"
                    + 2 * layers + "})?", Pattern.DOTALL).matcher(text);
            boolean whole = m.matches();
            if ((whole || m.hitEnd()) && temperaturesRise(text)) {
                best = Math.max(best, whole ? 2 : 1);
            }
        }
        return best;
    }

    private static boolean temperaturesRise(String text) {
        int t = text.indexOf('t');
        int before = 0;
        for (int k = t + 1; t >= 0 && k < text.length(); k += 2) {
            int now = 10 * (text.charAt(k) - '0') + (k + 1 < text.length() ? text.charAt(k + 1) - '0' : 9);
            if (now < before) {
                return false;
            }
            before = now;
        }
        return true;
    }

    int errorPosition() {
        for (int k = 1; k <= text.length(); k++) {
            if (kindOfText(text.substring(0, k)) == 0) {
                return k - 1;
            }
        }
        return kindOfText(text) == 2 ? NONE : text.length();
    }

    int load() {
        state(kindOfText(text) == 2);
        s = new State();
        int t = text.indexOf('t');
        int end = t < 0 ? text.length() : t;
        s.n = (end - 6) / 4;
        s.power = new int[s.n];
        s.flue = new int[s.n];
        s.state = new int[s.n];
        s.left = new int[s.n];
        s.fired = new int[s.n];
        s.starts = new int[s.n];
        s.fuel = new int[s.n];
        for (int i = 0; i < s.n; i++) {
            s.power[i] = Integer.parseInt(text.substring(7 + 4 * i, 9 + 4 * i));
            s.flue[i] = text.charAt(9 + 4 * i) - '0';
        }
        s.draft[0] = Integer.parseInt(text.substring(2, 4));
        s.draft[1] = Integer.parseInt(text.substring(4, 6));
        s.t = new int[text.charAt(1) - '0'];
        for (int j = 0; j < s.t.length; j++) {
            s.t[j] = t < 0 ? 40 : Integer.parseInt(text.substring(t + 1 + 2 * j, t + 3 + 2 * j));
        }
        past.clear();
        slots[0] = null;
        slots[1] = null;
        return s.n;
    }

    int about(int what) {
        argument(in(what, 0, 16));
        int[] all = {0, 0, 0, 0, 0, 0, s.n, s.t.length, s.clock, s.mean(), s.reason, s.kill ? 1 : 0,
            s.kill ? s.run : 0, s.kill ? s.ticks : 0, s.done, s.failed, s.countState(2)};
        return what < 6 ? s.settings[what] : all[what];
    }

    int boiler(int i, int what) {
        bounds(in(i, 0, s.n - 1));
        argument(in(what, 0, 7));
        return new int[] {s.power[i], s.flue[i], s.state[i], s.state[i] == 1 ? s.left[i] : 0, s.fired[i],
            s.starts[i], s.fuel[i], s.canStart(i) ? 1 : 0}[what];
    }

    int flue(int f, int what) {
        bounds(in(f, 0, 1));
        argument(in(what, 0, 3));
        int members = (int) Arrays.stream(s.flue).filter(g -> g == f).count();
        return new int[] {s.draft[f], s.use(f), s.open[f] ? 1 : 0, members}[what];
    }

    int layer(int j) {
        bounds(in(j, 0, s.t.length - 1));
        return s.t[j];
    }

    int account(int what) {
        argument(in(what, 0, 5));
        return new int[] {s.given, s.cold, s.delivered, s.lost, s.allFuel(), s.draws}[what];
    }

    int tick(int m, int draws) {
        argument(in(m, 1, 96) && in(draws, 0, 5));
        remember();
        for (int k = 0; k < m; k++) {
            s.tick(draws);
        }
        return s.mean();
    }

    int draw(int times) {
        argument(in(times, 1, 20));
        remember();
        int sum = 0;
        for (int k = 0; k < times; k++) {
            sum += s.drawOnce();
        }
        return sum;
    }

    private static boolean isSetting(int what, int v) {
        switch (what) {
            case 0:
                return in(v, 40, 80);
            case 1:
                return in(v, 1, 9);
            case 2:
                return in(v, 1, 5);
            case 3:
                return in(v, 60, 90);
            case 4:
                return in(v, 1, 9);
            case 5:
                return in(v, 0, 23);
            default:
                return false;
        }
    }

    int set(int what, int v) {
        argument(isSetting(what, v));
        remember();
        int previous = s.settings[what];
        s.settings[what] = v;
        return previous;
    }

    int setFlue(int f, boolean open) {
        bounds(in(f, 0, 1));
        remember();
        return s.moveFlue(f, open);
    }

    int setDraft(int f, int draft) {
        bounds(in(f, 0, 1));
        argument(in(draft, 0, 99));
        remember();
        int previous = s.draft[f];
        s.draft[f] = draft;
        return previous;
    }

    int lock(int i) {
        bounds(in(i, 0, s.n - 1));
        state(s.state[i] != 4);
        remember();
        int previous = s.state[i];
        s.state[i] = 4;
        s.left[i] = 0;
        return previous;
    }

    int unlock(int i) {
        bounds(in(i, 0, s.n - 1));
        state(s.state[i] == 4);
        remember();
        s.state[i] = 0;
        return s.countState(4);
    }

    int putOff(int i) {
        bounds(in(i, 0, s.n - 1));
        state(s.state[i] == 3);
        remember();
        s.state[i] = 0;
        return s.fuel[i];
    }

    int undo() {
        state(!past.isEmpty());
        s = past.remove(past.size() - 1);
        return past.size();
    }

    int next() {
        return s.next();
    }

    int whyNot(int i) {
        bounds(in(i, 0, s.n - 1));
        if (s.state[i] == 1 || s.state[i] == 2) {
            return 1;
        }
        if (s.state[i] == 4) {
            return 2;
        }
        return s.canStart(i) ? 0 : s.open[s.flue[i]] ? 4 : 3;
    }

    int smallestSet(int heat, boolean asSet) {
        argument(in(heat, 1, 150));
        long best = Long.MAX_VALUE;
        for (int bits = 0; bits < 1 << s.n; bits++) {
            int[] sums = new int[2];
            for (int i = 0; i < s.n; i++) {
                sums[s.flue[i]] += (bits >> i) % 2 * s.power[i];
            }
            int sum = sums[0] + sums[1];
            if (sum >= heat && sums[0] <= s.draft[0] && sums[1] <= s.draft[1]) {
                best = Math.min(best, Integer.bitCount(bits) * 1_000_000L + sum * 1000L + bits);
            }
        }
        return best == Long.MAX_VALUE ? NONE : (int) (asSet ? best % 1000 : best / 1000 % 1000);
    }

    int ahead(int m, int draws, int what) {
        argument(in(m, 1, 96) && in(draws, 0, 5) && in(what, 0, 6));
        State a = s.copy();
        int smallest = 1000;
        for (int k = 0; k < m; k++) {
            a.tick(draws);
            smallest = Math.min(smallest, a.mean());
        }
        int starts = Arrays.stream(a.starts).sum() - Arrays.stream(s.starts).sum();
        return new int[] {a.mean(), a.top(), a.delivered - s.delivered, a.allFuel() - s.allFuel(), starts,
            a.done - s.done, smallest}[what];
    }

    int warmAfter(int temperature, int draws) {
        argument(in(temperature, 0, 99) && in(draws, 0, 5));
        State a = s.copy();
        for (int k = 0; k <= 200; k++) {
            if (a.mean() >= temperature) {
                return k;
            }
            a.tick(draws);
        }
        return NONE;
    }

    int bearable(int m, int least) {
        argument(in(m, 1, 96) && in(least, 10, 80));
        int best = NONE;
        for (int draws = 0; draws <= 5; draws++) {
            State a = s.copy();
            boolean bears = true;
            for (int k = 0; k < m; k++) {
                a.tick(draws);
                bears &= a.top() >= least;
            }
            best = bears ? draws : best;
        }
        return best;
    }

    int cheapestPurge(int m, int draws) {
        argument(in(m, 1, 96) && in(draws, 0, 5));
        int best = NONE;
        int least = 0;
        for (int purge = 5; purge >= 1; purge--) {
            State a = s.copy();
            a.settings[2] = purge;
            for (int k = 0; k < m; k++) {
                a.tick(draws);
            }
            if (best == NONE || a.allFuel() <= least) {
                best = purge;
                least = a.allFuel();
            }
        }
        return best;
    }

    int runScript(int n, long script) {
        argument(in(n, 1, 3));
        argument(script >= 0 && Long.toString(script).length() <= 5 * n);
        String digits = "000000000000000" + script;
        digits = digits.substring(digits.length() - 5 * n);
        PlainCascade copy = new PlainCascade();
        copy.s = s.copy();
        for (int k = 0; k < n; k++) {
            if (!copy.obeys(digits.substring(5 * k, 5 * k + 5))) {
                return k;
            }
        }
        return NONE;
    }

    private boolean obeys(String g) {
        int d = g.charAt(1) - '0';
        int last = g.charAt(4) - '0';
        int xy = Integer.parseInt(g.substring(3));
        try {
            if (g.matches("1.0..")) {
                tick(xy, d);
            } else if (g.matches("200..")) {
                draw(xy);
            } else if (g.matches("3.0..")) {
                set(d, xy);
            } else if (g.matches("4.00[01]")) {
                setFlue(d, last == 1);
            } else if (g.matches("5.000")) {
                lock(d);
            } else if (g.matches("6.000")) {
                unlock(d);
            } else if (g.matches("700..")) {
                return s.mean() >= xy;
            } else if (g.matches("8.00.")) {
                return boiler(d, 2) == last;
            } else {
                return g.matches("9000.") && s.done == last;
            }
            return true;
        } catch (RuntimeException e) {
            return false;
        }
    }

    int simulate(long seed, int m) {
        argument(in(m, 1, 96));
        State a = s.copy();
        long x = seed;
        for (int k = 0; k < m; k++) {
            x = x * 6364136223846793005L + 1442695040888963407L;
            int r = (int) (x >>> 33);
            if (r % 16 == 0) {
                a.moveFlue(r / 16 % 2, !a.open[r / 16 % 2]);
            }
            a.tick(r / 64 % 4);
        }
        return 1000 * (a.allFuel() - s.allFuel()) + a.mean();
    }

    int save(int slot) {
        bounds(in(slot, 0, 1));
        slots[slot] = s.copy();
        return s.clock;
    }

    int restore(int slot) {
        bounds(in(slot, 0, 1));
        state(slots[slot] != null);
        s = slots[slot].copy();
        past.clear();
        return s.clock;
    }
}
