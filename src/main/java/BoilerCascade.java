/**
 * A cascade of boilers that heats the layered water tank of a hotel.
 *
 * <p>Every row and every state is made once, in the constructor, and used again: no call makes an
 * object, but for the exceptions that it throws.
 */
public final class BoilerCascade {
    public static final int NONE = -9;

    private static final int TARGET = 0;
    private static final int BAND = 1;
    private static final int PURGE = 2;
    private static final int KILL = 3;
    private static final int HOLD = 4;
    private static final int NIGHT = 5;
    private static final int[] LEAST_SETTING = {40, 1, 1, 60, 1, 0};
    private static final int[] MOST_SETTING = {80, 9, 5, 90, 9, 23};
    private static final int[] FIRST_SETTING = {60, 3, 2, 70, 2, 2};

    private static final int OFF = 0;
    private static final int PURGING = 1;
    private static final int FIRING = 2;
    private static final int STANDBY = 3;
    private static final int LOCKED = 4;

    private static final int SETTINGS = 6;
    private static final int FLUES = 2;
    private static final int MOST_BOILERS = 5;
    private static final int MOST_LAYERS = 8;
    private static final int MOST_SIGNS = 60;
    private static final int MOST_REMEMBERED = 14;
    private static final int MOST_TICKS = 96;
    private static final int MOST_DRAWS = 5;
    private static final int MOST_DRAWS_AT_ONCE = 20;
    private static final int MOST_TICKS_TO_WARM = 200;
    private static final int MOST_COMMANDS = 3;
    private static final int MOST_HEAT_OF_A_SET = 150;
    private static final int GROUP = 100_000;

    private static final int HOTTEST = 99;
    private static final int FIRST_TEMPERATURE = 40;
    private static final int COLD_WATER = 10;
    private static final int HOURS = 24;
    private static final int MOST_TICKS_OF_A_KILL = 12;

    private final Plan plan = new Plan();
    private final Plant plant = new Plant();
    /** Forecasts, scripts and simulations run on this copy, so that they change nothing. */
    private final Plant trial = new Plant();
    private final History history = new History();
    private final Slot slot0 = new Slot();
    private final Slot slot1 = new Slot();

    public BoilerCascade() {
        plant.beginAs(plan);
    }

    // ---- text

    public int append(int c) throws IllegalArgumentException, IllegalStateException {
        requireWithin(c, 0, 255);
        if (!plan.add(c)) {
            throw new IllegalStateException("the text is full");
        }
        return plan.length;
    }

    public int clearText() {
        int previous = plan.length;
        plan.length = 0;
        return previous;
    }

    public int errorPosition() {
        return plan.read();
    }

    public int load() throws IllegalStateException {
        if (plan.read() != NONE) {
            throw new IllegalStateException("the text tells no cascade");
        }
        plant.beginAs(plan);
        history.forgetAll();
        slot0.filled = false;
        slot1.filled = false;
        return plant.count;
    }

    // ---- what there is

    public int about(int what) throws IllegalArgumentException {
        requireWithin(what, 0, 16);
        if (what < SETTINGS) {
            return plant.settings[what];
        }
        switch (what) {
            case 6:
                return plant.count;
            case 7:
                return plant.tank.layers;
            case 8:
                return plant.clock;
            case 9:
                return plant.tank.mean();
            case 10:
                return plant.reason;
            case 11:
                return plant.kill.goesOn ? 1 : 0;
            case 12:
                return plant.kill.run;
            case 13:
                return plant.kill.ticks;
            case 14:
                return plant.kill.done;
            case 15:
                return plant.kill.failed;
            default:
                return plant.countInState(FIRING);
        }
    }

    public int boiler(int i, int what) throws IndexOutOfBoundsException, IllegalArgumentException {
        requireBoiler(i);
        requireWithin(what, 0, 7);
        Boiler b = plant.boilers[i];
        switch (what) {
            case 0:
                return b.power;
            case 1:
                return b.flueNumber;
            case 2:
                return b.state;
            case 3:
                return b.purgeLeft;
            case 4:
                return b.fired;
            case 5:
                return b.starts;
            case 6:
                return b.fuel;
            default:
                return plant.hasRoomFor(b) ? 1 : 0;
        }
    }

    public int flue(int f, int what) throws IndexOutOfBoundsException, IllegalArgumentException {
        requireFlue(f);
        requireWithin(what, 0, 3);
        Flue flue = plant.flueOf(f);
        switch (what) {
            case 0:
                return flue.draft;
            case 1:
                return plant.useOf(f);
            case 2:
                return flue.open ? 1 : 0;
            default:
                return plant.countAtFlue(f);
        }
    }

    public int layer(int j) throws IndexOutOfBoundsException {
        if (j < 0 || j >= plant.tank.layers) {
            throw new IndexOutOfBoundsException("there is no such layer");
        }
        return plant.tank.temperatures[j];
    }

    public int account(int what) throws IllegalArgumentException {
        requireWithin(what, 0, 5);
        switch (what) {
            case 0:
                return plant.tank.given;
            case 1:
                return plant.tank.cold;
            case 2:
                return plant.tank.delivered;
            case 3:
                return plant.tank.lost;
            case 4:
                return plant.fuel();
            default:
                return plant.tank.draws;
        }
    }

    // ---- actions

    public int tick(int m, int draws) throws IllegalArgumentException {
        requireTicks(m, draws);
        history.remember(plant);
        plant.passTicks(m, draws);
        return plant.tank.mean();
    }

    public int draw(int times) throws IllegalArgumentException {
        requireWithin(times, 1, MOST_DRAWS_AT_ONCE);
        history.remember(plant);
        return plant.tank.deliver(times);
    }

    public int set(int what, int v) throws IllegalArgumentException {
        if (!isSetting(what, v)) {
            throw new IllegalArgumentException("no such setting, or not in its range");
        }
        history.remember(plant);
        int previous = plant.settings[what];
        plant.settings[what] = v;
        return previous;
    }

    public int setFlue(int f, boolean open) throws IndexOutOfBoundsException {
        requireFlue(f);
        history.remember(plant);
        return plant.moveFlue(f, open);
    }

    public int setDraft(int f, int draft) throws IndexOutOfBoundsException, IllegalArgumentException {
        requireFlue(f);
        requireWithin(draft, 0, 99);
        history.remember(plant);
        Flue flue = plant.flueOf(f);
        int previous = flue.draft;
        flue.draft = draft;
        return previous;
    }

    public int lock(int i) throws IndexOutOfBoundsException, IllegalStateException {
        requireBoiler(i);
        int previous = plant.boilers[i].state;
        if (previous == LOCKED) {
            throw new IllegalStateException("the boiler is locked already");
        }
        history.remember(plant);
        plant.boilers[i].leaveFor(LOCKED);
        return previous;
    }

    public int unlock(int i) throws IndexOutOfBoundsException, IllegalStateException {
        requireBoiler(i);
        if (plant.boilers[i].state != LOCKED) {
            throw new IllegalStateException("the boiler is not locked");
        }
        history.remember(plant);
        plant.boilers[i].leaveFor(OFF);
        return plant.countInState(LOCKED);
    }

    public int putOff(int i) throws IndexOutOfBoundsException, IllegalStateException {
        requireBoiler(i);
        if (plant.boilers[i].state != STANDBY) {
            throw new IllegalStateException("the boiler is not on standby");
        }
        history.remember(plant);
        plant.boilers[i].leaveFor(OFF);
        return plant.boilers[i].fuel;
    }

    public int undo() throws IllegalStateException {
        if (!history.takeBackInto(plant)) {
            throw new IllegalStateException("no state is remembered");
        }
        return history.count;
    }

    // ---- turns

    public int next() {
        return plant.firstToStart();
    }

    public int whyNot(int i) throws IndexOutOfBoundsException {
        requireBoiler(i);
        Boiler b = plant.boilers[i];
        if (b.state == LOCKED) {
            return 2;
        }
        if (!b.waits()) {
            return 1;
        }
        if (!plant.flueOf(b.flueNumber).open) {
            return 3;
        }
        return plant.hasRoomFor(b) ? 0 : 4;
    }

    public int smallestSet(int heat, boolean asSet) throws IllegalArgumentException {
        requireWithin(heat, 1, MOST_HEAT_OF_A_SET);
        int best = 0;
        for (int bits = 1; bits < 1 << plant.count; bits++) {
            boolean enough = plant.powerOf(bits) >= heat && plant.fitsDrafts(bits);
            // the sets come in ascending order, so a later one must be truly smaller
            if (enough && (best == 0 || plant.isSmallerSet(bits, best))) {
                best = bits;
            }
        }
        if (best == 0) {
            return NONE;
        }
        return asSet ? best : plant.powerOf(best);
    }

    // ---- forecasts

    public int ahead(int m, int draws, int what) throws IllegalArgumentException {
        requireTicks(m, draws);
        requireWithin(what, 0, 6);
        trial.copyFrom(plant);
        int smallestMean = HOTTEST;
        for (int k = 0; k < m; k++) {
            trial.passTicks(1, draws);
            smallestMean = Math.min(smallestMean, trial.tank.mean());
        }
        switch (what) {
            case 0:
                return trial.tank.mean();
            case 1:
                return trial.tank.highest();
            case 2:
                return trial.tank.delivered - plant.tank.delivered;
            case 3:
                return trial.fuel() - plant.fuel();
            case 4:
                return trial.starts() - plant.starts();
            case 5:
                return trial.kill.done - plant.kill.done;
            default:
                return smallestMean;
        }
    }

    public int warmAfter(int temperature, int draws) throws IllegalArgumentException {
        requireWithin(temperature, 0, HOTTEST);
        requireWithin(draws, 0, MOST_DRAWS);
        trial.copyFrom(plant);
        for (int ticks = 0; ticks < MOST_TICKS_TO_WARM; ticks++) {
            if (trial.tank.mean() >= temperature) {
                return ticks;
            }
            trial.passTicks(1, draws);
        }
        return trial.tank.mean() >= temperature ? MOST_TICKS_TO_WARM : NONE;
    }

    public int bearable(int m, int least) throws IllegalArgumentException {
        requireWithin(m, 1, MOST_TICKS);
        requireWithin(least, 10, 80);
        for (int draws = MOST_DRAWS; draws >= 0; draws--) {
            if (staysHot(m, draws, least)) {
                return draws;
            }
        }
        return NONE;
    }

    public int cheapestPurge(int m, int draws) throws IllegalArgumentException {
        requireTicks(m, draws);
        int best = NONE;
        int leastFuel = 0;
        for (int purge = LEAST_SETTING[PURGE]; purge <= MOST_SETTING[PURGE]; purge++) {
            trial.copyFrom(plant);
            trial.settings[PURGE] = purge;
            trial.passTicks(m, draws);
            int fuel = trial.fuel();
            if (best == NONE || fuel < leastFuel) {
                leastFuel = fuel;
                best = purge;
            }
        }
        return best;
    }

    // ---- scripts, simulations

    public int runScript(int n, long script) throws IllegalArgumentException {
        requireWithin(n, 1, MOST_COMMANDS);
        long place = 1;
        for (int k = 1; k < n; k++) {
            place *= GROUP;
        }
        if (script < 0 || script >= place * GROUP) {
            throw new IllegalArgumentException("the script is negative or too long");
        }
        trial.copyFrom(plant);
        for (int k = 0; k < n && place > 0; k++) {
            int group = (int) (script / place % GROUP);
            int kind = group / 10_000;
            int second = group / 1000 % 10;
            int number = group % 1000;
            if (!isAllowed(kind, second, number)) {
                return k;
            }
            carryOut(kind, second, number);
            place /= GROUP;
        }
        return NONE;
    }

    public int simulate(long seed, int m) throws IllegalArgumentException {
        requireWithin(m, 1, MOST_TICKS);
        trial.copyFrom(plant);
        long x = seed;
        for (int k = 0; k < m; k++) {
            x = x * 6364136223846793005L + 1442695040888963407L;
            int r = (int) (x >>> 33);
            if (r % 16 == 0) {
                int f = r / 16 % FLUES;
                trial.moveFlue(f, !trial.flueOf(f).open);
            }
            trial.passTicks(1, r / 64 % 4);
        }
        return 1000 * (trial.fuel() - plant.fuel()) + trial.tank.mean();
    }

    // ---- save slots

    public int save(int slot) throws IndexOutOfBoundsException {
        requireSlot(slot);
        Slot chosen = slot == 0 ? slot0 : slot1;
        chosen.content.copyFrom(plant);
        chosen.filled = true;
        return plant.clock;
    }

    public int restore(int slot) throws IndexOutOfBoundsException, IllegalStateException {
        requireSlot(slot);
        Slot chosen = slot == 0 ? slot0 : slot1;
        if (!chosen.filled) {
            throw new IllegalStateException("nothing is saved in this slot");
        }
        plant.copyFrom(chosen.content);
        history.forgetAll();
        return plant.clock;
    }

    // ---- what the calls above share

    private static void requireWithin(int value, int least, int most) {
        if (value < least || value > most) {
            throw new IllegalArgumentException("an argument is out of its range");
        }
    }

    private static void requireTicks(int m, int draws) {
        requireWithin(m, 1, MOST_TICKS);
        requireWithin(draws, 0, MOST_DRAWS);
    }

    private static void requireFlue(int f) {
        if (f < 0 || f >= FLUES) {
            throw new IndexOutOfBoundsException("there is no such flue");
        }
    }

    private static void requireSlot(int slot) {
        if (slot != 0 && slot != 1) {
            throw new IndexOutOfBoundsException("there is no such save slot");
        }
    }

    private void requireBoiler(int i) {
        if (!plant.hasBoiler(i)) {
            throw new IndexOutOfBoundsException("there is no such boiler");
        }
    }

    private static boolean isSetting(int what, int v) {
        return what >= 0 && what < SETTINGS && v >= LEAST_SETTING[what] && v <= MOST_SETTING[what];
    }

    private boolean staysHot(int m, int draws, int least) {
        trial.copyFrom(plant);
        for (int k = 0; k < m; k++) {
            trial.passTicks(1, draws);
            if (trial.tank.highest() < least) {
                return false;
            }
        }
        return true;
    }

    /**
     * Whether a command of a script succeeds on the trial. Its number holds the third digit too: where
     * this is not 0, the number is above 99, and so beyond what any command takes.
     */
    private boolean isAllowed(int kind, int second, int number) {
        switch (kind) {
            case 1:
                return second <= MOST_DRAWS && number >= 1 && number <= MOST_TICKS;
            case 2:
                return second == 0 && number >= 1 && number <= MOST_DRAWS_AT_ONCE;
            case 3:
                return isSetting(second, number);
            case 4:
                return second < FLUES && number <= 1;
            case 5:
                return number == 0 && trial.hasBoiler(second) && trial.boilers[second].state != LOCKED;
            case 6:
                return number == 0 && trial.hasBoiler(second) && trial.boilers[second].state == LOCKED;
            case 7:
                return second == 0 && number <= 99 && trial.tank.mean() >= number;
            case 8:
                return trial.hasBoiler(second) && trial.boilers[second].state == number;
            case 9:
                return second == 0 && number <= 9 && trial.kill.done == number;
            default:
                return false;
        }
    }

    /** Carries out a command that is allowed; the kinds behind the sixth one only ask. */
    private void carryOut(int kind, int second, int number) {
        switch (kind) {
            case 1:
                trial.passTicks(number, second);
                break;
            case 2:
                trial.tank.deliver(number);
                break;
            case 3:
                trial.settings[second] = number;
                break;
            case 4:
                trial.moveFlue(second, number == 1);
                break;
            case 5:
                trial.boilers[second].leaveFor(LOCKED);
                break;
            case 6:
                trial.boilers[second].leaveFor(OFF);
                break;
            default:
                break;
        }
    }

    /** The text, and what it told when it was last read; at first the plan of a new object. */
    private static final class Plan {
        final int[] signs = new int[MOST_SIGNS];
        int length;
        int layers = 4;
        int draft0 = 50;
        int draft1 = 50;
        int boilers = 1;
        final int[] powers = new int[MOST_BOILERS];
        final int[] flues = new int[MOST_BOILERS];
        final int[] temperatures = new int[MOST_LAYERS];
        private int position;
        private boolean wrong;

        Plan() {
            powers[0] = 10;
            fillTemperatures();
        }

        boolean add(int sign) {
            if (length < 0 || length >= signs.length) {
                return false;
            }
            signs[length] = sign;
            length++;
            return true;
        }

        /** Reads the whole text; the error position, or NONE if there is no error. */
        int read() {
            position = 0;
            wrong = false;
            readSign('H');
            layers = readDigit(2, MOST_LAYERS);
            draft0 = readNumber(0, 99);
            draft1 = readNumber(0, 99);
            readBoiler(0);
            boilers = 1;
            while (boilers < MOST_BOILERS && sees('b')) {
                readBoiler(boilers);
                boilers++;
            }
            if (sees('t')) {
                readTemperatures();
            } else {
                fillTemperatures();
            }
            return wrong || position < length ? position : NONE;
        }

        private void readBoiler(int i) {
            readSign('b');
            powers[i] = readNumber(1, 30);
            flues[i] = readDigit(0, 1);
        }

        private void readTemperatures() {
            readSign('t');
            int coldest = 0;
            for (int j = 0; j < layers && j < temperatures.length; j++) {
                coldest = readNumber(coldest, HOTTEST);
                temperatures[j] = coldest;
            }
        }

        private void fillTemperatures() {
            for (int j = 0; j < temperatures.length; j++) {
                temperatures[j] = FIRST_TEMPERATURE;
            }
        }

        private boolean hasMore() {
            return !wrong && position < length && position < signs.length;
        }

        private boolean sees(int sign) {
            return hasMore() && signs[position] == sign;
        }

        private void readSign(int sign) {
            if (sees(sign)) {
                position++;
            } else {
                wrong = true;
            }
        }

        /** A number of two digits from least to most. */
        private int readNumber(int least, int most) {
            int tens = readDigit(least / 10, most / 10);
            int fewest = tens == least / 10 ? least % 10 : 0;
            int highest = tens == most / 10 ? most % 10 : 9;
            return 10 * tens + readDigit(fewest, highest);
        }

        /** Behind an error the position stays, and the least digit stands for what is not read. */
        private int readDigit(int least, int most) {
            if (hasMore()) {
                int digit = signs[position] - '0';
                if (digit >= least && digit <= most) {
                    position++;
                    return digit;
                }
            }
            wrong = true;
            return least;
        }
    }

    private static final class Boiler {
        int power;
        int flueNumber;
        int state;
        int purgeLeft;
        int fired;
        int starts;
        int fuel;

        void beginAs(int itsPower, int itsFlue) {
            power = itsPower;
            flueNumber = itsFlue;
            state = OFF;
            purgeLeft = 0;
            fired = 0;
            starts = 0;
            fuel = 0;
        }

        void copyFrom(Boiler other) {
            power = other.power;
            flueNumber = other.flueNumber;
            state = other.state;
            purgeLeft = other.purgeLeft;
            fired = other.fired;
            starts = other.starts;
            fuel = other.fuel;
        }

        boolean waits() {
            return state == OFF || state == STANDBY;
        }

        void start(int purge) {
            if (state == STANDBY) {
                state = FIRING;
            } else {
                state = PURGING;
                purgeLeft = purge;
            }
            starts++;
        }

        void leaveFor(int newState) {
            state = newState;
            purgeLeft = 0;
        }

        /** Its part of a tick; the heat that it gives. A purge that ends now heats from the next tick on. */
        int work() {
            switch (state) {
                case PURGING:
                    purgeLeft--;
                    if (purgeLeft <= 0) {
                        leaveFor(FIRING);
                    }
                    return 0;
                case FIRING:
                    fired++;
                    fuel += power;
                    return power;
                case STANDBY:
                    fuel++;
                    return 0;
                default:
                    return 0;
            }
        }
    }

    private static final class Flue {
        int draft;
        boolean open;

        void beginAs(int itsDraft) {
            draft = itsDraft;
            open = true;
        }

        void copyFrom(Flue other) {
            draft = other.draft;
            open = other.open;
        }
    }

    /** The layers, the lowest one first, and the accounts of their heat. */
    private static final class Tank {
        final int[] temperatures = new int[MOST_LAYERS];
        int layers;
        int given;
        int cold;
        int delivered;
        int lost;
        int draws;

        void beginAs(int itsLayers, int[] firstTemperatures) {
            layers = Math.min(itsLayers, Math.min(temperatures.length, firstTemperatures.length));
            for (int j = 0; j < layers; j++) {
                temperatures[j] = firstTemperatures[j];
            }
            given = 0;
            cold = 0;
            delivered = 0;
            lost = 0;
            draws = 0;
        }

        void copyFrom(Tank other) {
            layers = other.layers;
            for (int j = 0; j < layers; j++) {
                temperatures[j] = other.temperatures[j];
            }
            given = other.given;
            cold = other.cold;
            delivered = other.delivered;
            lost = other.lost;
            draws = other.draws;
        }

        int mean() {
            int sum = 0;
            for (int j = 0; j < layers; j++) {
                sum += temperatures[j];
            }
            return layers > 0 ? sum / layers : 0;
        }

        int highest() {
            return layers > 0 ? temperatures[layers - 1] : 0;
        }

        int coldest() {
            int coldest = HOTTEST;
            for (int j = 0; j < layers; j++) {
                coldest = Math.min(coldest, temperatures[j]);
            }
            return coldest;
        }

        /** Draws some times; the sum of the temperatures that are delivered. */
        int deliver(int times) {
            int sum = 0;
            for (int k = 0; k < times; k++) {
                sum += highest();
                for (int j = layers - 1; j > 0; j--) {
                    temperatures[j] = temperatures[j - 1];
                }
                temperatures[0] = COLD_WATER;
                cold += COLD_WATER;
                draws++;
            }
            delivered += sum;
            return sum;
        }

        /**
         * Takes heat. Each unit goes to the lowest one of the coldest layers, so the layers of one
         * temperature take a unit each, from below, before any of them takes another one.
         */
        void warm(int units) {
            int left = units;
            for (int level = coldest(); level < HOTTEST && left > 0; level++) {
                for (int j = 0; j < layers && left > 0; j++) {
                    if (temperatures[j] == level) {
                        temperatures[j]++;
                        left--;
                    }
                }
            }
            given += units;
            lost += left;
        }

        void cool() {
            for (int j = 0; j < layers; j++) {
                if (temperatures[j] > 20) {
                    int loss = (temperatures[j] - 20) / 20;
                    temperatures[j] -= loss;
                    lost += loss;
                }
            }
        }

        void putInOrder() {
            for (int j = 1; j < layers; j++) {
                int moved = temperatures[j];
                int place = j;
                while (place > 0 && temperatures[place - 1] > moved) {
                    temperatures[place] = temperatures[place - 1];
                    place--;
                }
                temperatures[place] = moved;
            }
        }
    }

    /** The heat kill of the night. */
    private static final class Kill {
        boolean goesOn;
        int run;
        int ticks;
        int done;
        int failed;

        void beginAsNew() {
            done = 0;
            failed = 0;
            end();
        }

        void copyFrom(Kill other) {
            goesOn = other.goesOn;
            run = other.run;
            ticks = other.ticks;
            done = other.done;
            failed = other.failed;
        }

        void end() {
            goesOn = false;
            run = 0;
            ticks = 0;
        }

        void countTick(boolean hot, int hold) {
            if (!goesOn) {
                return;
            }
            ticks++;
            run = hot ? run + 1 : 0;
            if (run >= hold) {
                done++;
                end();
            } else if (ticks >= MOST_TICKS_OF_A_KILL) {
                failed++;
                end();
            }
        }
    }

    /** The whole state: what is remembered, saved and copied. */
    private static final class Plant {
        final Boiler[] boilers = new Boiler[MOST_BOILERS];
        /** How many of the boilers there are; the others are spare. */
        int count;
        final Flue flue0 = new Flue();
        final Flue flue1 = new Flue();
        final int[] settings = new int[SETTINGS];
        final Tank tank = new Tank();
        final Kill kill = new Kill();
        int clock;
        int reason;

        Plant() {
            for (int i = 0; i < boilers.length; i++) {
                boilers[i] = new Boiler();
            }
        }

        void beginAs(Plan plan) {
            count = Math.min(plan.boilers, boilers.length);
            for (int i = 0; i < count; i++) {
                boilers[i].beginAs(plan.powers[i], plan.flues[i]);
            }
            flue0.beginAs(plan.draft0);
            flue1.beginAs(plan.draft1);
            for (int k = 0; k < settings.length; k++) {
                settings[k] = FIRST_SETTING[k];
            }
            tank.beginAs(plan.layers, plan.temperatures);
            kill.beginAsNew();
            clock = 0;
            reason = 0;
        }

        void copyFrom(Plant other) {
            count = other.count;
            for (int i = 0; i < count; i++) {
                boilers[i].copyFrom(other.boilers[i]);
            }
            flue0.copyFrom(other.flue0);
            flue1.copyFrom(other.flue1);
            for (int k = 0; k < settings.length; k++) {
                settings[k] = other.settings[k];
            }
            tank.copyFrom(other.tank);
            kill.copyFrom(other.kill);
            clock = other.clock;
            reason = other.reason;
        }

        boolean hasBoiler(int i) {
            return i >= 0 && i < count;
        }

        Flue flueOf(int f) {
            return f == 0 ? flue0 : flue1;
        }

        int useOf(int f) {
            int use = 0;
            for (int i = 0; i < count; i++) {
                Boiler b = boilers[i];
                if (b.flueNumber == f && (b.state == PURGING || b.state == FIRING)) {
                    use += b.power;
                }
            }
            return use;
        }

        int countAtFlue(int f) {
            int found = 0;
            for (int i = 0; i < count; i++) {
                if (boilers[i].flueNumber == f) {
                    found++;
                }
            }
            return found;
        }

        int countInState(int state) {
            int found = 0;
            for (int i = 0; i < count; i++) {
                if (boilers[i].state == state) {
                    found++;
                }
            }
            return found;
        }

        int fuel() {
            int sum = 0;
            for (int i = 0; i < count; i++) {
                sum += boilers[i].fuel;
            }
            return sum;
        }

        int starts() {
            int sum = 0;
            for (int i = 0; i < count; i++) {
                sum += boilers[i].starts;
            }
            return sum;
        }

        /** Whether it can start by its flue, whatever its state. */
        boolean hasRoomFor(Boiler b) {
            Flue flue = flueOf(b.flueNumber);
            return flue.open && useOf(b.flueNumber) + b.power <= flue.draft;
        }

        /** The boiler whose turn it is to start; NONE if none can. */
        int firstToStart() {
            int best = NONE;
            int fewest = 0;
            for (int i = 0; i < count; i++) {
                Boiler b = boilers[i];
                if (b.waits() && (best == NONE || b.fired < fewest) && hasRoomFor(b)) {
                    best = i;
                    fewest = b.fired;
                }
            }
            return best;
        }

        /** The boiler whose turn it is to go to standby; NONE if none fires. */
        int firstToRest() {
            int best = NONE;
            int most = 0;
            for (int i = 0; i < count; i++) {
                if (boilers[i].state == FIRING && boilers[i].fired >= most) {
                    best = i;
                    most = boilers[i].fired;
                }
            }
            return best;
        }

        /** Opens or shuts a flue; the number of its boilers that go off by this. */
        int moveFlue(int f, boolean open) {
            flueOf(f).open = open;
            int wentOff = 0;
            for (int i = 0; i < count && !open; i++) {
                Boiler b = boilers[i];
                if (b.flueNumber == f && b.state != OFF && b.state != LOCKED) {
                    b.leaveFor(OFF);
                    wentOff++;
                }
            }
            return wentOff;
        }

        /** Lets ticks pass, with draws ahead of each; a tick goes in the order of the document's parts. */
        void passTicks(int m, int draws) {
            for (int k = 0; k < m; k++) {
                tank.deliver(draws);
                if (clock % HOURS == settings[NIGHT]) {
                    // one that goes on already keeps its run and its ticks
                    kill.goesOn = true;
                }
                control(kill.goesOn ? settings[KILL] : settings[TARGET]);
                for (int i = 0; i < count; i++) {
                    tank.warm(boilers[i].work());
                }
                tank.cool();
                tank.putInOrder();
                kill.countTick(tank.coldest() >= settings[KILL], settings[HOLD]);
                clock++;
            }
        }

        private void control(int goal) {
            int mean = tank.mean();
            reason = 0;
            if (mean < goal - settings[BAND]) {
                int i = firstToStart();
                if (hasBoiler(i)) {
                    boilers[i].start(settings[PURGE]);
                } else {
                    reason = whyNoneStarts();
                }
            } else if (mean > goal + settings[BAND]) {
                int i = firstToRest();
                if (hasBoiler(i)) {
                    boilers[i].leaveFor(STANDBY);
                }
            }
        }

        private int whyNoneStarts() {
            int why = 3;
            for (int i = 0; i < count; i++) {
                if (boilers[i].waits()) {
                    why = Math.min(why, flueOf(boilers[i].flueNumber).open ? 1 : 2);
                }
            }
            return why;
        }

        int powerOf(int bits) {
            return powerAt(0, bits) + powerAt(1, bits);
        }

        boolean fitsDrafts(int bits) {
            return powerAt(0, bits) <= flue0.draft && powerAt(1, bits) <= flue1.draft;
        }

        boolean isSmallerSet(int bits, int other) {
            int boilersOf = Integer.bitCount(bits);
            int boilersOfOther = Integer.bitCount(other);
            return boilersOf < boilersOfOther
                    || boilersOf == boilersOfOther && powerOf(bits) < powerOf(other);
        }

        private int powerAt(int f, int bits) {
            int sum = 0;
            for (int i = 0; i < count; i++) {
                if ((bits >> i & 1) == 1 && boilers[i].flueNumber == f) {
                    sum += boilers[i].power;
                }
            }
            return sum;
        }
    }

    /** The states before the last actions: a ring, in which a new state takes the oldest one's place. */
    private static final class History {
        private final Plant[] states = new Plant[MOST_REMEMBERED];
        /** Where the next state goes. */
        private int place;
        int count;

        History() {
            for (int k = 0; k < states.length; k++) {
                states[k] = new Plant();
            }
        }

        void forgetAll() {
            count = 0;
        }

        void remember(Plant plant) {
            if (place >= states.length) {
                place = 0;
            }
            states[place].copyFrom(plant);
            place++;
            count = Math.min(count + 1, states.length);
        }

        boolean takeBackInto(Plant plant) {
            if (count <= 0) {
                return false;
            }
            place = place > 0 ? place - 1 : states.length - 1;
            plant.copyFrom(states[place]);
            count--;
            return true;
        }
    }

    private static final class Slot {
        final Plant content = new Plant();
        boolean filled;
    }
}
