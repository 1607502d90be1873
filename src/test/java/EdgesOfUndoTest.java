/** The boundary cases of "Actions and undo", of promise 19, and of the save slots, sentence by sentence. */
public final class EdgesOfUndoTest {
    public static void main(String[] args) {
        nothingIsRememberedAtFirst();
        fourteenAreTheMost();
        theRingOfStatesWrapsAround();
        eachCallIsOneAction();
        anActionThatChangesNothing();
        undoIsNoAction();
        refusedCallsAreNoActions();
        questionsAreNoActions();
        textAndSlotsAreNoState();
        theWholeStateIsRemembered();
        loadAndRestoreAreNoActions();
        slotsAreZeroAndOne();
        nothingSaved();
        theSlotIsLookedAtFirst();
        aSlotKeepsItsState();
        saveTellsTheClock();
        restoreForgets();
        Check.end("EdgesOfUndoTest");
    }

    private static void nothingIsRememberedAtFirst() {
        Edge.edge("undo throws if none is remembered: a new object", """
            undo() = IllegalState
            draw(1)
            undo() = 0
            undo() = IllegalState
            account(5) = 0
            """);
        Edge.edge("undo throws if none is remembered: a loaded one", """
            load H29999b010
            undo() = IllegalState
            """);
    }

    private static void fourteenAreTheMost() {
        Edge.edge("at most 14 states are remembered: 13", """
            13 x draw(1)
            undo() = 12
            """);
        Edge.edge("at most 14 states are remembered: 14, all of them can be taken back", """
            14 x draw(1)
            undo() = 13
            undo() = 12
            undo() = 11
            undo() = 10
            undo() = 9
            undo() = 8
            undo() = 7
            undo() = 6
            undo() = 5
            undo() = 4
            undo() = 3
            undo() = 2
            undo() = 1
            account(5) = 1
            undo() = 0
            account(5) = 0
            undo() = IllegalState
            """);
        Edge.edge("when one more is remembered, the oldest one is forgotten", """
            15 x draw(1)
            undo() = 13
            12 x undo()
            account(5) = 2
            undo() = 0
            account(5) = 1
            undo() = IllegalState
            account(5) = 1
            """);
    }

    private static void theRingOfStatesWrapsAround() {
        Edge.edge("the oldest ones are forgotten: 28 more than can be remembered", """
            42 x draw(1)
            13 x undo()
            account(5) = 29
            undo() = 0
            account(5) = 28
            undo() = IllegalState
            """);
        Edge.edge("what is taken back makes place again", """
            20 x draw(1)
            5 x undo()
            account(5) = 15
            4 x draw(2)
            account(5) = 23
            undo() = 12
            2 x draw(1)
            undo() = 13
            undo() = 12
            account(5) = 21
            undo() = 11
            account(5) = 19
            11 x undo()
            account(5) = 6
            undo() = IllegalState
            """);
        Edge.edge("behind a load it begins anew, wherever it stood", """
            load H29999b010
            9 x draw(1)
            load H29999b010
            14 x draw(1)
            13 x undo()
            account(5) = 1
            undo() = 0
            account(5) = 0
            undo() = IllegalState
            """);
    }

    private static void eachCallIsOneAction() {
        Edge.edge("ticks of one call are together one action", """
            tick(96, 5)
            about(8) = 96
            undo() = 0
            about(8) = 0
            account(5) = 0
            undo() = IllegalState
            """);
        Edge.edge("draws of one call are together one action", """
            draw(20)
            undo() = 0
            account(5) = 0
            """);
        Edge.edge("each call that does not throw is an action: all nine kinds but undo", """
            load H29999b020t5050
            set(5, 23)
            set(2, 1)
            set(0, 80)
            tick(2, 0)
            set(0, 40)
            tick(1, 0)
            putOff(0) = 3
            lock(0) = 0
            unlock(0) = 0
            setDraft(0, 5) = 99
            setFlue(0, false) = 0
            draw(1)
            undo() = 11
            undo() = 10
            flue(0, 2) = 1
            undo() = 9
            flue(0, 0) = 99
            undo() = 8
            boiler(0, 2) = 4
            undo() = 7
            boiler(0, 2) = 0
            undo() = 6
            boiler(0, 2) = 3
            undo() = 5
            boiler(0, 2) = 2
            undo() = 4
            about(0) = 80
            undo() = 3
            about(8) = 0
            """);
    }

    private static void anActionThatChangesNothing() {
        Edge.edge("also if nothing becomes different: set to what it is", """
            set(0, 60) = 60
            undo() = 0
            """);
        Edge.edge("also if nothing becomes different: an open flue is opened", """
            setFlue(0, true) = 0
            undo() = 0
            """);
        Edge.edge("also if nothing becomes different: a shut flue is shut", """
            setFlue(1, false) = 0
            setFlue(1, false) = 0
            undo() = 1
            flue(1, 2) = 0
            undo() = 0
            flue(1, 2) = 1
            """);
        Edge.edge("also if nothing becomes different: the draft that it has", """
            setDraft(1, 50) = 50
            undo() = 0
            """);
        Edge.edge("such an action, too, lets the oldest one be forgotten", """
            draw(1)
            14 x set(0, 60) = 60
            14 x undo()
            account(5) = 1
            undo() = IllegalState
            """);
    }

    private static void undoIsNoAction() {
        Edge.edge("undo is none: it is not taken back by a second undo", """
            draw(1)
            draw(1)
            undo() = 1
            account(5) = 1
            undo() = 0
            account(5) = 0
            undo() = IllegalState
            """);
    }

    private static void refusedCallsAreNoActions() {
        Edge.edge("a call that throws is no action and changes nothing", """
            load H29999b010b021t2020
            lock(1) = 0
            tick(1, 0)
            save(1) = 1
            draw(1)
            append(256) = IllegalArgument
            about(17) = IllegalArgument
            boiler(2, 0) = IndexOutOfBounds
            flue(2, 0) = IndexOutOfBounds
            layer(2) = IndexOutOfBounds
            account(6) = IllegalArgument
            tick(97, 0) = IllegalArgument
            tick(1, 6) = IllegalArgument
            draw(21) = IllegalArgument
            set(6, 5) = IllegalArgument
            set(0, 81) = IllegalArgument
            setFlue(2, true) = IndexOutOfBounds
            setFlue(-1, false) = IndexOutOfBounds
            setDraft(2, 50) = IndexOutOfBounds
            setDraft(0, 100) = IllegalArgument
            lock(2) = IndexOutOfBounds
            lock(1) = IllegalState
            unlock(2) = IndexOutOfBounds
            unlock(0) = IllegalState
            putOff(2) = IndexOutOfBounds
            putOff(0) = IllegalState
            whyNot(2) = IndexOutOfBounds
            smallestSet(151, true) = IllegalArgument
            ahead(97, 0, 0) = IllegalArgument
            warmAfter(100, 0) = IllegalArgument
            bearable(1, 81) = IllegalArgument
            cheapestPurge(97, 0) = IllegalArgument
            runScript(4, 10001) = IllegalArgument
            simulate(0, 97) = IllegalArgument
            save(2) = IndexOutOfBounds
            restore(2) = IndexOutOfBounds
            restore(0) = IllegalState
            undo() = 2
            undo() = 1
            undo() = 0
            undo() = IllegalState
            restore(1) = 1
            """);
        Edge.edge("nor does a refused call let the oldest one be forgotten", """
            14 x draw(1)
            20 x draw(0) = IllegalArgument
            20 x setFlue(2, false) = IndexOutOfBounds
            20 x unlock(0) = IllegalState
            14 x undo()
            account(5) = 0
            undo() = IllegalState
            """);
    }

    private static void questionsAreNoActions() {
        Edge.edge("these and all following methods up to the save slots change nothing", """
            load H29999b100b201t2030
            tick(2, 1)
            next()
            whyNot(0)
            smallestSet(10, true)
            smallestSet(150, false)
            ahead(96, 5, 0)
            ahead(96, 5, 6)
            warmAfter(99, 5)
            bearable(96, 80)
            cheapestPurge(96, 5)
            runScript(3, 10096_20020_30041) = NONE
            runScript(3, 40000_41000_50000) = NONE
            runScript(2, 50000_60000) = NONE
            simulate(-1, 96)
            about(8) = 2
            undo() = 0
            undo() = IllegalState
            """);
    }

    private static void textAndSlotsAreNoState() {
        Edge.edge("the state consists of everything but the text: undo leaves it", """
            draw(1)
            append(72) = 1
            undo() = 0
            append(52) = 2
            draw(1)
            clearText() = 2
            undo() = 0
            clearText() = 0
            """);
        Edge.edge("the state consists of everything but the save slots: undo leaves them", """
            draw(1)
            save(0) = 0
            undo() = 0
            account(5) = 0
            restore(0) = 0
            account(5) = 1
            """);
        Edge.edge("append, clearText, errorPosition and save are no actions", """
            draw(1)
            append(72)
            errorPosition() = 1
            clearText() = 1
            save(0) = 0
            save(1) = 0
            undo() = 0
            undo() = IllegalState
            """);
    }

    private static void theWholeStateIsRemembered() {
        Edge.edge("the state before is remembered: a kill and its run, the reason, clock, counts and accounts", """
            load H30000b010b021t929293
            set(5, 0)
            set(4, 5)
            tick(3, 0)
            about(12) = 3
            set(5, 5)
            draw(3)
            tick(30, 2)
            about(15) = 1
            about(13) = 4
            undo() = 5
            undo() = 4
            undo() = 3
            about(8) = 3
            about(11) = 1
            about(12) = 3
            about(13) = 3
            about(10) = 0
            about(5) = 0
            account(5) = 0
            tick(2, 0)
            about(14) = 1
            undo() = 3
            about(14) = 0
            about(12) = 3
            """);
        Edge.edge("the state before is remembered: ticks of firing, starts, fuel, and all accounts", """
            load H29999b300b290t1010
            set(5, 23)
            set(2, 1)
            tick(2, 1)
            draw(1) = 25
            boilers 4 = 1 0
            tick(10, 2)
            lock(1)
            undo()
            undo()
            boilers 4 = 1 0
            boilers 5 = 1 1
            boilers 6 = 30 0
            next() = NONE
            account(0) = 30
            account(1) = 30
            account(2) = 45
            account(3) = 0
            account(4) = 30
            account(5) = 3
            setFlue(0, false) = 2
            setFlue(0, true) = 0
            next() = 1
            undo()
            undo()
            undo()
            account(1) = 20
            account(2) = 20
            undo()
            account(0) = 0
            account(2) = 0
            boilers 4 = 0 0
            """);
        Edge.edge("the state before is remembered: lost heat, and a kill that failed", """
            load H20000b010t9999
            set(3, 90)
            set(5, 0)
            set(4, 9)
            tick(12, 0)
            about(15) = 1
            account(3) = 62
            set(5, 12)
            tick(12, 0)
            about(15) = 2
            undo()
            about(15) = 1
            account(3) = 62
            undo()
            undo()
            about(15) = 0
            account(3) = 0
            """);
        Edge.edge("the state before is remembered: what a shut flue put off", """
            load H29999b010b020b031t2020
            set(2, 5)
            tick(7, 0)
            boilers 2 = 2 2 2
            lock(0) = 2
            unlock(0) = 0
            tick(1, 0)
            boilers 2 = 1 2 2
            boiler(0, 3) = 4
            setFlue(0, false) = 2
            boilers 2 = 0 0 2
            undo()
            boilers 2 = 1 2 2
            boiler(0, 3) = 4
            flue(0, 2) = 1
            flue(0, 1) = 3
            """);
    }

    private static void loadAndRestoreAreNoActions() {
        Edge.edge("load is no action", """
            load H29999b010
            undo() = IllegalState
            """);
        Edge.edge("restore is no action", """
            save(0) = 0
            restore(0) = 0
            undo() = IllegalState
            """);
    }

    private static void slotsAreZeroAndOne() {
        Edge.edge("a save slot is 0 or 1", """
            save(-1) = IndexOutOfBounds
            save(2) = IndexOutOfBounds
            save(-2147483648) = IndexOutOfBounds
            save(2147483647) = IndexOutOfBounds
            restore(0) = IllegalState
            restore(1) = IllegalState
            save(0) = 0
            save(1) = 0
            restore(0) = 0
            restore(1) = 0
            restore(-1) = IndexOutOfBounds
            restore(2) = IndexOutOfBounds
            """);
        Edge.edge("the slots are apart", """
            tick(1, 0)
            save(0) = 1
            tick(1, 0)
            save(1) = 2
            tick(1, 0)
            restore(0) = 1
            restore(1) = 2
            restore(0) = 1
            about(8) = 1
            """);
    }

    private static void nothingSaved() {
        Edge.edge("restore throws if nothing has been saved in it: it keeps the remembered states", """
            draw(1)
            restore(0) = IllegalState
            restore(1) = IllegalState
            undo() = 0
            save(1) = 0
            restore(0) = IllegalState
            restore(1) = 0
            """);
        Edge.edge("restore throws if nothing has been saved in it since the last load", """
            write H29999b010
            save(0) = 0
            load() = 1
            draw(1)
            restore(0) = IllegalState
            account(5) = 1
            save(0) = 0
            restore(0) = 0
            account(5) = 1
            """);
        Edge.edge("a load that throws empties no slot and forgets no state", """
            draw(1)
            save(0) = 0
            write H2
            load() = IllegalState
            undo() = 0
            restore(0) = 0
            account(5) = 1
            """);
    }

    private static void theSlotIsLookedAtFirst() {
        Edge.edge("IndexOutOfBoundsException is named first: nothing is saved either", """
            restore(2) = IndexOutOfBounds
            restore(-1) = IndexOutOfBounds
            """);
    }

    private static void aSlotKeepsItsState() {
        Edge.edge("the save slot keeps it", """
            tick(2, 1)
            save(0) = 2
            restore(0) = 2
            tick(50, 1)
            lock(0)
            restore(0) = 2
            boiler(0, 2) = 2
            account(5) = 2
            """);
        Edge.edge("restore replaces the state: ticks of firing, starts, fuel, accounts and kills", """
            load H29999b300b290t9999
            set(3, 90)
            set(5, 0)
            set(4, 9)
            set(2, 1)
            tick(13, 1)
            about(15) = 1
            boilers 4 = 12 11
            boilers 5 = 1 1
            boilers 6 = 360 319
            account(0) = 679
            save(1) = 13
            tick(40, 3)
            lock(0)
            restore(1) = 13
            about(15) = 1
            boilers 4 = 12 11
            boilers 5 = 1 1
            boilers 6 = 360 319
            account(0) = 679
            account(1) = 130
            account(4) = 679
            account(5) = 13
            """);
        Edge.edge("a second save takes the place of the first one", """
            save(0) = 0
            tick(5, 0)
            save(0) = 5
            tick(5, 0)
            restore(0) = 5
            """);
    }

    private static void saveTellsTheClock() {
        Edge.edge("returns the clock: at first, and behind many ticks", """
            save(0) = 0
            5 x tick(96, 0)
            save(1) = 480
            restore(0) = 0
            restore(1) = 480
            about(8) = 480
            """);
    }

    private static void restoreForgets() {
        Edge.edge("restore forgets all remembered states", """
            save(1) = 0
            14 x draw(1)
            restore(1) = 0
            undo() = IllegalState
            draw(1)
            undo() = 0
            undo() = IllegalState
            """);
        Edge.edge("save forgets none", """
            14 x draw(1)
            save(0) = 0
            undo() = 13
            """);
    }
}
