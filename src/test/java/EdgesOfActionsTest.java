/** The boundary cases of promises 11 to 18, sentence by sentence. */
public final class EdgesOfActionsTest {
    /** Boilers 0 to 4: purging, firing, on standby, locked, off; 0, 2 and 4 are at flue 0. */
    private static final String IN_EACH_STATE = """
            load H29999b010b021b030b041b050t5050
            set(5, 23)
            set(0, 80)
            set(2, 1)
            lock(3)
            lock(4)
            lock(0)
            lock(1)
            tick(2, 0)
            set(0, 40)
            tick(1, 0)
            setDraft(0, 0)
            unlock(1)
            set(0, 80)
            tick(1, 0)
            setDraft(0, 1)
            unlock(0)
            set(2, 5)
            tick(1, 0)
            unlock(4)
            boilers 2 = 1 2 3 4 0
            """;

    public static void main(String[] args) {
        ticksAreOneTo96();
        drawsAreZeroToFive();
        theDrawsAreAheadOfEachTick();
        timesAreOneToTwenty();
        theSumThatIsDelivered();
        theNumberOfASetting();
        theValueOfASetting();
        aKillThatGoesOnStays();
        fluesAreZeroAndOne();
        howManyWentOff();
        draftsAreZeroTo99();
        whatPurgesOrFiresGoesOn();
        lockWhateverItDoes();
        lockTwice();
        unlock();
        unlockWhatIsNotLocked();
        putOff();
        putOffWhatIsNotOnStandby();
        boilersThatDoNotExist();
        Check.end("EdgesOfActionsTest");
    }

    private static void ticksAreOneTo96() {
        Edge.edge("m: number of ticks, 1 to 96", """
            tick(0, 0) = IllegalArgument
            tick(-1, 0) = IllegalArgument
            tick(97, 0) = IllegalArgument
            tick(-2147483648, 0) = IllegalArgument
            tick(2147483647, 0) = IllegalArgument
            about(8) = 0
            tick(1, 0) = 39
            about(8) = 1
            tick(96, 0)
            about(8) = 97
            """);
    }

    private static void drawsAreZeroToFive() {
        Edge.edge("how often is drawn ahead of each tick, 0 to 5", """
            tick(1, -1) = IllegalArgument
            tick(1, 6) = IllegalArgument
            tick(1, -2147483648) = IllegalArgument
            tick(1, 2147483647) = IllegalArgument
            tick(0, 6) = IllegalArgument
            about(8) = 0
            tick(1, 0)
            account(5) = 0
            tick(1, 5)
            account(5) = 5
            """);
    }

    private static void theDrawsAreAheadOfEachTick() {
        Edge.edge("drawn ahead of each tick, not only of the first one, and ahead of its parts", """
            load H30000b010t203050
            tick(2, 2) = 10
            account(5) = 4
            account(2) = 110
            load H29999b300t6060
            tick(1, 1) = 34
            boiler(0, 2) = 1
            """);
    }

    private static void timesAreOneToTwenty() {
        Edge.edge("times: 1 to 20", """
            draw(0) = IllegalArgument
            draw(-1) = IllegalArgument
            draw(21) = IllegalArgument
            draw(-2147483648) = IllegalArgument
            draw(2147483647) = IllegalArgument
            account(5) = 0
            draw(1) = 40
            account(5) = 1
            draw(20) = 290
            account(5) = 21
            about(8) = 0
            """);
    }

    private static void theSumThatIsDelivered() {
        Edge.edge("returns the sum of the temperatures that are delivered: of this call alone", """
            load H39999b010t004099
            draw(2) = 139
            draw(1) = 0
            draw(3) = 30
            account(2) = 169
            """);
    }

    private static void theNumberOfASetting() {
        Edge.edge("what: its number, 0 to 5", """
            set(-1, 60) = IllegalArgument
            set(6, 5) = IllegalArgument
            set(-2147483648, 5) = IllegalArgument
            set(2147483647, 5) = IllegalArgument
            set(-1, -1) = IllegalArgument
            set(0, 61) = 60
            set(5, 5) = 2
            """);
    }

    private static void theValueOfASetting() {
        int[] least = {40, 1, 1, 60, 1, 0};
        int[] most = {80, 9, 5, 90, 9, 23};
        for (int w = 0; w < least.length; w++) {
            String set = "set(" + w + ", ";
            Edge.edge("v: new value, in the range of the setting " + w, set + most[w] + ")\n" + set + least[w] + ") = "
                    + most[w] + "\n" + set + (least[w] - 1) + ") = IllegalArgument\n" + set + (most[w] + 1)
                    + ") = IllegalArgument\n" + set + "-2147483648) = IllegalArgument\n" + set
                    + "2147483647) = IllegalArgument\nabout(" + w + ") = " + least[w] + "\n" + set + most[w] + ") = "
                    + least[w]);
        }
    }

    private static void aKillThatGoesOnStays() {
        Edge.edge("a kill that goes on stays: another night, hold and kill", """
            load H20000b010t9999
            set(5, 0)
            set(4, 9)
            tick(3, 0)
            set(5, 23)
            set(3, 90)
            set(4, 1)
            about(11) = 1
            about(12) = 3
            about(13) = 3
            about(14) = 0
            """);
        Edge.edge("setting the night to this hour begins no kill before the tick", """
            set(5, 0)
            about(11) = 0
            """);
    }

    private static void fluesAreZeroAndOne() {
        Edge.edge("setFlue: f is 0 or 1", """
            setFlue(-1, false) = IndexOutOfBounds
            setFlue(2, false) = IndexOutOfBounds
            setFlue(2, true) = IndexOutOfBounds
            setFlue(-2147483648, false) = IndexOutOfBounds
            setFlue(2147483647, false) = IndexOutOfBounds
            flue(0, 2) = 1
            flue(1, 2) = 1
            setFlue(0, false) = 0
            setFlue(1, false) = 0
            flue(0, 2) = 0
            flue(1, 2) = 0
            """);
    }

    private static void howManyWentOff() {
        Edge.edge("the number of its boilers that went off by this: none of those that were off or locked", """
            load H29999b010b010
            lock(0)
            setFlue(0, false) = 0
            boilers 2 = 4 0
            """);
        Edge.edge("the number of its boilers that went off by this, also from standby", IN_EACH_STATE + """
            setFlue(0, false) = 2
            boilers 2 = 0 2 0 4 0
            setFlue(1, false) = 1
            boilers 2 = 0 0 0 4 0
            """);
        Edge.edge("the number of its boilers that went off by this: all five", """
            load H29999b010b010b010b010b010t2020
            tick(5, 0)
            setFlue(1, false) = 0
            setFlue(0, false) = 5
            """);
        Edge.edge("(0 if it is opened, or was shut)", IN_EACH_STATE + """
            setFlue(0, true) = 0
            boilers 2 = 1 2 3 4 0
            setFlue(0, false) = 2
            setFlue(0, false) = 0
            setFlue(0, true) = 0
            boilers 2 = 0 2 0 4 0
            """);
    }

    private static void draftsAreZeroTo99() {
        Edge.edge("setDraft: draft 0 to 99, returns the previous draft", """
            setDraft(0, 0) = 50
            setDraft(0, 99) = 0
            setDraft(0, 100) = IllegalArgument
            setDraft(0, -1) = IllegalArgument
            setDraft(1, -2147483648) = IllegalArgument
            setDraft(1, 2147483647) = IllegalArgument
            flue(0, 0) = 99
            setDraft(1, 0) = 50
            """);
        Edge.edge("setDraft: f is 0 or 1, and this is looked at first", """
            setDraft(-1, 50) = IndexOutOfBounds
            setDraft(2, 50) = IndexOutOfBounds
            setDraft(2, 100) = IndexOutOfBounds
            setDraft(-1, -1) = IndexOutOfBounds
            setDraft(2147483647, 2147483647) = IndexOutOfBounds
            """);
        Edge.edge("setDraft of a shut flue leaves it shut", """
            setFlue(0, false)
            setDraft(0, 99) = 50
            flue(0, 2) = 0
            next() = NONE
            """);
    }

    private static void whatPurgesOrFiresGoesOn() {
        Edge.edge("what purges or fires goes on, also with the draft 0", IN_EACH_STATE + """
            setDraft(0, 0) = 1
            setDraft(1, 0) = 99
            boilers 2 = 1 2 3 4 0
            tick(3, 0)
            boilers 2 = 1 2 3 4 0
            tick(1, 0)
            boilers 2 = 2 2 3 4 0
            tick(1, 0)
            boilers 4 = 1 6 1 0 0
            """);
    }

    private static void lockWhateverItDoes() {
        Edge.edge("locks a boiler, whatever it does; returns its previous state", IN_EACH_STATE + """
            lock(0) = 1
            lock(1) = 2
            lock(2) = 3
            lock(4) = 0
            boilers 2 = 4 4 4 4 4
            boilers 3 = 0 0 0 0 0
            flue(0, 1) = 0
            flue(1, 1) = 0
            next() = NONE
            tick(1, 0)
            about(10) = 3
            """);
    }

    private static void lockTwice() {
        Edge.edge("lock throws if it is locked", IN_EACH_STATE + """
            lock(3) = IllegalState
            lock(0) = 1
            lock(0) = IllegalState
            """);
    }

    private static void unlock() {
        Edge.edge("unlocks a boiler: it is off then; returns how many are still locked", IN_EACH_STATE + """
            lock(0)
            lock(1)
            lock(2)
            lock(4)
            unlock(2) = 4
            boiler(2, 2) = 0
            unlock(0) = 3
            unlock(1) = 2
            unlock(4) = 1
            unlock(3) = 0
            boilers 2 = 0 0 0 0 0
            """);
        Edge.edge("it is off then, also at a shut flue", """
            lock(0)
            setFlue(0, false)
            unlock(0) = 0
            boiler(0, 2) = 0
            whyNot(0) = 3
            """);
    }

    private static void unlockWhatIsNotLocked() {
        Edge.edge("unlock throws if it is not locked: it purges, fires, is on standby or off", IN_EACH_STATE + """
            unlock(0) = IllegalState
            unlock(1) = IllegalState
            unlock(2) = IllegalState
            unlock(4) = IllegalState
            unlock(3) = 0
            unlock(3) = IllegalState
            """);
    }

    private static void putOff() {
        Edge.edge("makes a boiler that is on standby go off; returns its fuel", IN_EACH_STATE + """
            boiler(2, 6) = 6
            putOff(2) = 6
            boilers 2 = 1 2 0 4 0
            boiler(2, 6) = 6
            boiler(2, 4) = 1
            boiler(2, 5) = 1
            """);
    }

    private static void putOffWhatIsNotOnStandby() {
        Edge.edge("putOff throws if it is not on standby: it purges, fires, is locked or off", IN_EACH_STATE + """
            putOff(0) = IllegalState
            putOff(1) = IllegalState
            putOff(3) = IllegalState
            putOff(4) = IllegalState
            putOff(2) = 6
            putOff(2) = IllegalState
            """);
    }

    private static void boilersThatDoNotExist() {
        for (String name : new String[] {"lock", "unlock", "putOff"}) {
            for (int i : new int[] {-1, 2, 4, 5, Integer.MIN_VALUE, Integer.MAX_VALUE}) {
                String call = name + "(" + i + ")";
                Edge.edge(call + ": there is no such boiler of two", """
                    load H29999b010b010
                    lock(1)
                    """ + call + " = IndexOutOfBounds");
            }
        }
        Edge.edge("the last boiler of five exists", """
            load H29999b010b010b010b010b010
            lock(4) = 0
            unlock(4) = 0
            putOff(4) = IllegalState
            lock(5) = IndexOutOfBounds
            unlock(5) = IndexOutOfBounds
            putOff(5) = IndexOutOfBounds
            """);
    }
}
