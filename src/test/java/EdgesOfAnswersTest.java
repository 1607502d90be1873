/** The boundary cases of promises 6 to 10 and 20 to 22, sentence by sentence. */
public final class EdgesOfAnswersTest {
    public static void main(String[] args) {
        about();
        whereNoneGoesOn();
        theNumberOfBoilersThatFire();
        boiler();
        ticksThatAreLeft();
        whateverItsState();
        flue();
        layer();
        account();
        accountsOfTheLongestUse();
        theBoilerOrFlueIsLookedAtFirst();
        next();
        whyNot();
        whyNotInItsOrder();
        theHeatOfASet();
        justEnoughHeat();
        theSetKeepsToTheDrafts();
        whateverTheirStatesAre();
        theSmallestSet();
        Check.end("EdgesOfAnswersTest");
    }

    private static void about() {
        Edge.edge("about: what is 0 to 16", """
            about(-1) = IllegalArgument
            about(0) = 60
            about(16) = 0
            about(17) = IllegalArgument
            about(-2147483648) = IllegalArgument
            about(2147483647) = IllegalArgument
            """);
        Edge.edge("about: each number at first", """
            about(0) = 60
            about(1) = 3
            about(2) = 2
            about(3) = 70
            about(4) = 2
            about(5) = 2
            about(6) = 1
            about(7) = 4
            about(8) = 0
            about(9) = 40
            about(10) = 0
            about(11) = 0
            about(12) = 0
            about(13) = 0
            about(14) = 0
            about(15) = 0
            about(16) = 0
            """);
        Edge.edge("the reason of the last tick (0 if there was none)", """
            load H20000b010
            about(10) = 0
            draw(1)
            about(10) = 0
            tick(1, 0)
            about(10) = 1
            undo()
            about(10) = 0
            """);
    }

    private static void whereNoneGoesOn() {
        Edge.edge("its run, its ticks (0 if none goes on): before, in it, behind one that was done", """
            load H20000b010t9090
            set(4, 3)
            set(5, 1)
            tick(1, 0)
            about(11) = 0
            about(12) = 0
            about(13) = 0
            tick(2, 0)
            about(11) = 1
            about(12) = 2
            about(13) = 2
            tick(1, 0)
            about(11) = 0
            about(12) = 0
            about(13) = 0
            about(14) = 1
            """);
        Edge.edge("its run, its ticks (0 if none goes on): behind one that failed with a run", """
            load H20000b010t9999
            set(5, 0)
            set(4, 9)
            set(3, 90)
            tick(10, 0)
            set(3, 60)
            tick(1, 0)
            about(12) = 1
            tick(1, 0)
            about(15) = 1
            about(11) = 0
            about(12) = 0
            about(13) = 0
            """);
    }

    private static void theNumberOfBoilersThatFire() {
        Edge.edge("the number of boilers that fire: none that is off, purges, is on standby or locked", """
            load H29999b010b010b010b011b011t5050
            set(5, 23)
            set(0, 80)
            set(2, 2)
            about(16) = 0
            tick(1, 0)
            about(16) = 0
            tick(1, 0)
            about(16) = 1
            tick(4, 0)
            about(16) = 5
            lock(0)
            about(16) = 4
            setFlue(0, false)
            about(16) = 2
            set(0, 40)
            tick(1, 0)
            about(16) = 1
            tick(1, 0)
            about(16) = 0
            """);
    }

    private static void boiler() {
        Edge.edge("boiler: what is 0 to 7", """
            boiler(0, -1) = IllegalArgument
            boiler(0, 0) = 10
            boiler(0, 7) = 1
            boiler(0, 8) = IllegalArgument
            boiler(0, -2147483648) = IllegalArgument
            boiler(0, 2147483647) = IllegalArgument
            """);
        Edge.edge("boiler: there is no such boiler", """
            load H29999b100b110
            boiler(-1, 0) = IndexOutOfBounds
            boiler(1, 0) = 11
            boiler(2, 0) = IndexOutOfBounds
            boiler(5, 0) = IndexOutOfBounds
            boiler(-2147483648, 0) = IndexOutOfBounds
            boiler(2147483647, 0) = IndexOutOfBounds
            """);
    }

    private static void ticksThatAreLeft() {
        Edge.edge("the ticks of its purge that are left (0 if it does not purge)", """
            load H29999b010t5050
            set(5, 23)
            set(0, 80)
            set(2, 3)
            boiler(0, 3) = 0
            tick(1, 0)
            boiler(0, 3) = 2
            tick(1, 0)
            boiler(0, 3) = 1
            tick(1, 0)
            boiler(0, 2) = 2
            boiler(0, 3) = 0
            set(0, 40)
            tick(1, 0)
            boiler(0, 2) = 3
            boiler(0, 3) = 0
            putOff(0)
            boiler(0, 3) = 0
            lock(0)
            boiler(0, 3) = 0
            """);
    }

    private static void whateverItsState() {
        Edge.edge("1 if it can start by its flue, whatever its state: it is locked", """
            load H21010b100
            lock(0)
            boiler(0, 7) = 1
            setDraft(0, 9)
            boiler(0, 7) = 0
            setDraft(0, 10)
            setFlue(0, false)
            boiler(0, 7) = 0
            """);
        Edge.edge("the power of one that purges is in the use already, and counts once more", """
            load H22010b100t2020
            tick(1, 0)
            boiler(0, 2) = 1
            boiler(0, 7) = 1
            setDraft(0, 19)
            boiler(0, 7) = 0
            """);
        Edge.edge("the power of one that fires is in the use already, and counts once more", """
            load H22010b100t2020
            tick(2, 0)
            boiler(0, 2) = 2
            boiler(0, 7) = 1
            setDraft(0, 19)
            boiler(0, 7) = 0
            """);
    }

    private static void flue() {
        Edge.edge("flue: f is 0 or 1", """
            flue(-1, 0) = IndexOutOfBounds
            flue(0, 0) = 50
            flue(1, 0) = 50
            flue(2, 0) = IndexOutOfBounds
            flue(-2147483648, 0) = IndexOutOfBounds
            flue(2147483647, 0) = IndexOutOfBounds
            """);
        Edge.edge("flue: what is 0 to 3", """
            flue(0, -1) = IllegalArgument
            flue(0, 3) = 1
            flue(1, 3) = 0
            flue(0, 4) = IllegalArgument
            flue(1, -2147483648) = IllegalArgument
            flue(1, 2147483647) = IllegalArgument
            """);
        Edge.edge("the number of its boilers: all of them, whatever their states, and none", """
            load H29999b101b101b101b101b101t2020
            flue(0, 3) = 0
            flue(1, 3) = 5
            lock(0)
            tick(2, 0)
            setFlue(1, false)
            flue(1, 3) = 5
            """);
    }

    private static void layer() {
        Edge.edge("layer: there is no such layer", """
            layer(-1) = IndexOutOfBounds
            layer(0) = 40
            layer(3) = 40
            layer(4) = IndexOutOfBounds
            layer(-2147483648) = IndexOutOfBounds
            layer(2147483647) = IndexOutOfBounds
            """);
    }

    private static void account() {
        Edge.edge("account: what is 0 to 5", """
            account(-1) = IllegalArgument
            account(0) = 0
            account(5) = 0
            account(6) = IllegalArgument
            account(-2147483648) = IllegalArgument
            account(2147483647) = IllegalArgument
            """);
        Edge.edge("heat given by boilers (also lost units), and lost heat", """
            load H29900b300b270t7575
            set(3, 90)
            set(1, 9)
            set(5, 0)
            tick(1, 0)
            set(2, 1)
            tick(2, 0)
            account(0) = 57
            account(3) = 15
            account(4) = 57
            """);
    }

    /** The text and its load are 33 calls, the ticks 476, and the questions the last 3 of 512. */
    private static void accountsOfTheLongestUse() {
        BoilerCascade x = Check.loaded("H29090b300b300b300b301b301t9999");
        for (int k = 0; k < 476; k++) {
            x.tick(96, 5);
        }
        Check.due("at most 512 calls: the clock", x.about(8), 45_696);
        Check.due("at most 512 calls: draws since the beginning", x.account(5), 228_480);
        Check.due("at most 512 calls: heat of cold water since the beginning", x.account(1), 2_284_800);
    }

    private static void theBoilerOrFlueIsLookedAtFirst() {
        Edge.edge("IndexOutOfBoundsException is named first", """
            boiler(1, 8) = IndexOutOfBounds
            boiler(-1, -1) = IndexOutOfBounds
            flue(2, 4) = IndexOutOfBounds
            flue(-1, -1) = IndexOutOfBounds
            setDraft(2, 100) = IndexOutOfBounds
            setDraft(-1, -1) = IndexOutOfBounds
            """);
    }

    private static void next() {
        Edge.edge("NONE if none can start: all purge or fire", """
            load H29999b010b011t2020
            next() = 0
            tick(1, 0)
            next() = 1
            tick(1, 0)
            next() = NONE
            tick(1, 0)
            boilers 2 = 2 2
            next() = NONE
            """);
        Edge.edge("NONE if none can start: all are locked", """
            load H29999b010b011t2020
            lock(0)
            next() = 1
            lock(1)
            next() = NONE
            unlock(0)
            next() = 0
            """);
        Edge.edge("NONE if none can start: no draft at one flue, the other one is shut", """
            load H20099b010b011t2020
            next() = 1
            setFlue(1, false)
            next() = NONE
            setDraft(0, 1)
            next() = 0
            """);
        Edge.edge("if the control wanted one: also while it is warm enough", """
            load H29999b010t9999
            next() = 0
            tick(1, 0)
            boiler(0, 2) = 0
            """);
        Edge.edge("the last boiler of five can be the one", """
            load H29999b010b010b010b010b011t2020
            setFlue(0, false)
            next() = 4
            """);
    }

    private static void whyNot() {
        Edge.edge("whyNot: there is no such boiler", """
            whyNot(-1) = IndexOutOfBounds
            whyNot(0) = 0
            whyNot(1) = IndexOutOfBounds
            whyNot(-2147483648) = IndexOutOfBounds
            whyNot(2147483647) = IndexOutOfBounds
            """);
        Edge.edge("0 if it can start, 4 if the draft does not suffice: just at the draft", """
            load H23000b100b200t2020
            tick(1, 0)
            whyNot(1) = 0
            setDraft(0, 29)
            whyNot(1) = 4
            """);
    }

    private static void whyNotInItsOrder() {
        Edge.edge("1 if it purges or fires, whatever the draft is", """
            load H29999b100t2020
            tick(1, 0)
            whyNot(0) = 1
            setDraft(0, 0)
            whyNot(0) = 1
            tick(1, 0)
            boiler(0, 2) = 2
            whyNot(0) = 1
            """);
        Edge.edge("2 if it is locked, whatever its flue is", """
            load H20099b100
            lock(0)
            whyNot(0) = 2
            setFlue(0, false)
            whyNot(0) = 2
            setDraft(0, 99)
            setFlue(0, true)
            whyNot(0) = 2
            """);
        Edge.edge("otherwise 3 if its flue is shut, also if the draft does not suffice", """
            load H20099b100
            whyNot(0) = 4
            setFlue(0, false)
            whyNot(0) = 3
            setDraft(0, 99)
            whyNot(0) = 3
            """);
    }

    private static void theHeatOfASet() {
        Edge.edge("heat: 1 to 150", """
            smallestSet(0, true) = IllegalArgument
            smallestSet(0, false) = IllegalArgument
            smallestSet(1, true) = 1
            smallestSet(1, false) = 10
            smallestSet(150, true) = NONE
            smallestSet(150, false) = NONE
            smallestSet(151, true) = IllegalArgument
            smallestSet(151, false) = IllegalArgument
            smallestSet(-2147483648, true) = IllegalArgument
            smallestSet(2147483647, false) = IllegalArgument
            """);
        Edge.edge("150 is the power of all boilers that can be, with the drafts that hold them", """
            load H29090b300b301b300b301b300
            smallestSet(150, true) = 31
            smallestSet(150, false) = 150
            setDraft(0, 89)
            smallestSet(150, true) = NONE
            """);
    }

    private static void justEnoughHeat() {
        Edge.edge("whose powers add up to at least this heat: just so, and one more", """
            load H29999b100b200
            smallestSet(10, true) = 1
            smallestSet(11, true) = 2
            smallestSet(20, false) = 20
            smallestSet(21, true) = 3
            smallestSet(30, true) = 3
            smallestSet(30, false) = 30
            smallestSet(31, true) = NONE
            smallestSet(31, false) = NONE
            """);
    }

    private static void theSetKeepsToTheDrafts() {
        Edge.edge("that could fire together within the drafts: just the draft, and one less", """
            load H23010b100b200b101
            smallestSet(40, true) = 7
            setDraft(0, 29)
            smallestSet(40, true) = NONE
            smallestSet(30, true) = 6
            setDraft(1, 9)
            smallestSet(30, true) = NONE
            smallestSet(20, true) = 2
            setDraft(0, 19)
            smallestSet(20, true) = NONE
            smallestSet(10, true) = 1
            setDraft(0, 9)
            smallestSet(1, true) = NONE
            smallestSet(1, false) = NONE
            """);
    }

    private static void whateverTheirStatesAre() {
        Edge.edge("whatever their states are and others do, and whether flues are open", """
            load H23010b100b200b101t2020
            tick(1, 0)
            boilers 2 = 1 0 0
            smallestSet(40, true) = 7
            tick(1, 0)
            lock(1)
            lock(2)
            smallestSet(40, true) = 7
            setFlue(0, false)
            setFlue(1, false)
            smallestSet(40, true) = 7
            smallestSet(10, true) = 1
            """);
    }

    private static void theSmallestSet() {
        Edge.edge("the one with the fewest boilers, also if its sum is greater", """
            load H29999b100b100b300
            smallestSet(20, true) = 4
            smallestSet(20, false) = 30
            load H29999b300b100b100
            smallestSet(20, true) = 1
            smallestSet(20, false) = 30
            """);
        Edge.edge("among several the one with the smallest sum of powers, also if its bits are greater", """
            load H29999b300b200b100
            smallestSet(5, true) = 4
            smallestSet(15, true) = 2
            smallestSet(25, true) = 1
            smallestSet(35, true) = 5
            smallestSet(35, false) = 40
            """);
        Edge.edge("among several the smallest bit set", """
            load H29999b100b101b100b101b100
            smallestSet(10, true) = 1
            smallestSet(20, true) = 3
            smallestSet(30, true) = 7
            smallestSet(40, true) = 15
            smallestSet(50, true) = 31
            setDraft(0, 10)
            smallestSet(20, true) = 3
            smallestSet(30, true) = 11
            smallestSet(40, true) = NONE
            """);
        Edge.edge("among several the smallest bit set: two other pairs have the same sum", """
            load H29999b050b150b100b100
            smallestSet(20, true) = 3
            smallestSet(20, false) = 20
            smallestSet(16, true) = 3
            smallestSet(15, true) = 2
            """);
    }
}
