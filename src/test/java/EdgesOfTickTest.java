/** The boundary cases of "A tick", sentence by sentence. */
public final class EdgesOfTickTest {
    public static void main(String[] args) {
        theHourWrapsAround();
        aKillBeginsAtTheNight();
        aKillBeginsWithNothing();
        theGoal();
        tooColdBelowTheBand();
        tooWarmAboveTheBand();
        whoStarts();
        aPurgeLastsAsTheSettingTells();
        fromStandbyItFiresAtOnce();
        reasons();
        whoGoesToStandby();
        thePurgeEndsBehindItsTick();
        theFuelOfAStandby();
        heatGoesToTheColdest();
        heatBeyondNinetyNineIsLost();
        lossesBeginAboveTwenty();
        layersArePutInOrder();
        theTickInWhichItBeganCounts();
        allLayersMustHaveTheKill();
        theRunReachesTheHold();
        twelveTicksAreTheMost();
        whatIsOverDoesNotBeginAnew();
        theClockIncreasesByOne();
        shuttingAFlue();
        Check.end("EdgesOfTickTest");
    }

    private static void theHourWrapsAround() {
        Edge.edge("the clock is 0 at first: the first tick has the hour 0", """
            about(8) = 0
            set(5, 0) = 2
            tick(1, 0)
            about(11) = 1
            about(8) = 1
            """);
        Edge.edge("the hour 23 is that of the tick 24", """
            lock(0) = 0
            set(5, 23) = 2
            tick(23, 0)
            about(8) = 23
            about(11) = 0
            tick(1, 0)
            about(8) = 24
            about(11) = 1
            """);
        Edge.edge("the hour is the clock modulo 24: at the clock 24 it is 0 again", """
            lock(0) = 0
            set(5, 0) = 2
            tick(12, 0)
            about(15) = 1
            tick(12, 0)
            about(8) = 24
            about(11) = 0
            tick(1, 0)
            about(8) = 25
            about(11) = 1
            about(13) = 1
            """);
        Edge.edge("the hour wraps around each day", """
            lock(0) = 0
            tick(96, 0)
            about(15) = 4
            96 x tick(1, 0)
            about(15) = 8
            10 x tick(96, 0)
            about(8) = 1152
            about(15) = 48
            """);
    }

    private static void aKillBeginsAtTheNight() {
        Edge.edge("a kill begins if the hour is the night: not one hour before, nor one behind", """
            lock(0) = 0
            set(5, 7) = 2
            tick(7, 0)
            about(11) = 0
            tick(1, 0)
            about(11) = 1
            undo() = 3
            set(5, 6) = 7
            tick(17, 0)
            about(11) = 0
            tick(6, 0)
            about(11) = 0
            tick(1, 0)
            about(11) = 1
            """);
        Edge.edge("a kill begins if none goes on: one that goes on at the night keeps its run and its ticks", """
            load H20000b010t9090
            set(5, 0)
            set(4, 9)
            set(3, 60)
            tick(1, 0)
            set(5, 1)
            tick(1, 0)
            about(12) = 2
            about(13) = 2
            """);
        Edge.edge("one that goes on at the night still fails in its tick 12", """
            load H20000b010t4040
            set(5, 0)
            tick(6, 0)
            set(5, 6)
            tick(5, 0)
            about(13) = 11
            tick(1, 0)
            about(15) = 1
            about(11) = 0
            """);
    }

    private static void aKillBeginsWithNothing() {
        Edge.edge("its run is 0, and its ticks are 0: behind one that was done", """
            load H20000b010t9090
            set(5, 0)
            set(3, 60)
            tick(2, 0)
            about(14) = 1
            set(5, 2)
            set(4, 9)
            tick(1, 0)
            about(12) = 1
            about(13) = 1
            """);
        Edge.edge("its run is 0, and its ticks are 0: behind one that failed", """
            load H20000b010t7272
            set(5, 0)
            set(4, 9)
            set(3, 60)
            tick(5, 0)
            about(12) = 5
            set(3, 90)
            tick(7, 0)
            about(15) = 1
            set(5, 12)
            tick(1, 0)
            about(12) = 0
            about(13) = 1
            """);
    }

    private static void theGoal() {
        Edge.edge("while a kill goes on, the goal is the kill: in the tick in which it begins", """
            load H29999b100t6060
            set(5, 0)
            tick(1, 0)
            boiler(0, 2) = 1
            """);
        Edge.edge("otherwise the goal is the target: in the tick before the kill", """
            load H29999b100t6060
            set(5, 1)
            tick(1, 0)
            boiler(0, 2) = 0
            tick(1, 0)
            boiler(0, 2) = 1
            """);
        Edge.edge("otherwise the goal is the target: in the tick behind a kill that was done", """
            load H89999b100t7272727272727272
            set(5, 0)
            set(4, 1)
            tick(1, 0) = 70
            about(14) = 1
            draw(1) = 70
            about(9) = 62
            tick(1, 0)
            boiler(0, 2) = 0
            about(10) = 0
            """);
        Edge.edge("otherwise the goal is the target: in the tick behind a kill that failed", """
            load H29999b100t7979
            set(3, 90)
            set(5, 0)
            lock(0)
            tick(12, 0) = 57
            about(15) = 1
            unlock(0) = 0
            tick(1, 0)
            boiler(0, 2) = 0
            """);
    }

    private static void tooColdBelowTheBand() {
        String[] last = {"60, 3, 57, 56", "60, 1, 59, 58", "60, 9, 51, 50", "40, 9, 31, 30", "80, 1, 79, 78"};
        for (String numbers : last) {
            String[] v = numbers.split(", ");
            Edge.edge("less than the goal " + v[0] + " minus the band " + v[1] + ": " + v[2] + " is not",
                    "load H29999b100t" + v[2] + v[2] + "\nset(0, " + v[0] + ")\nset(1, " + v[1]
                    + ")\ntick(1, 0)\nboiler(0, 2) = 0\nboiler(0, 5) = 0\nabout(10) = 0");
            Edge.edge("less than the goal " + v[0] + " minus the band " + v[1] + ": " + v[3] + " is",
                    "load H29999b100t" + v[3] + v[3] + "\nset(0, " + v[0] + ")\nset(1, " + v[1]
                    + ")\ntick(1, 0)\nboiler(0, 2) = 1\nboiler(0, 5) = 1\nabout(10) = 0");
        }
        Edge.edge("less than the goal minus the band: the mean counts as it is rounded down", """
            load H29999b100t5657
            tick(1, 0)
            boiler(0, 2) = 1
            """);
        Edge.edge("less than the goal minus the band: the kill as the goal, 67 is not less than 70 - 3", """
            load H29999b100t6767
            set(5, 0)
            tick(1, 0)
            boiler(0, 2) = 0
            load H29999b100t6667
            set(5, 0)
            tick(1, 0)
            boiler(0, 2) = 1
            """);
        Edge.edge("less than the goal minus the band: the mean counts as it is behind the draws", """
            load H29999b100t5777
            tick(1, 0)
            boiler(0, 2) = 0
            undo() = 0
            tick(1, 1)
            boiler(0, 2) = 1
            """);
    }

    private static void tooWarmAboveTheBand() {
        Edge.edge("greater than the goal plus the band: 60 is not greater than 57 + 3", """
            load H29999b010t6163
            set(0, 80)
            set(2, 1)
            tick(1, 0) = 60
            boiler(0, 2) = 2
            set(0, 57)
            tick(1, 0)
            boiler(0, 2) = 2
            about(10) = 0
            """);
        Edge.edge("greater than the goal plus the band: 60 is greater than 56 + 3", """
            load H29999b010t6163
            set(0, 80)
            set(2, 1)
            tick(1, 0) = 60
            set(0, 56)
            tick(1, 0)
            boiler(0, 2) = 3
            about(10) = 0
            """);
        Edge.edge("greater than the goal plus the least band", """
            load H29999b010t6163
            set(0, 80)
            set(2, 1)
            tick(1, 0) = 60
            set(1, 1)
            set(0, 59)
            tick(1, 0)
            boiler(0, 2) = 2
            undo()
            set(0, 58)
            tick(1, 0)
            boiler(0, 2) = 3
            """);
        Edge.edge("greater than the goal plus the greatest band", """
            load H29999b010t6163
            set(0, 80)
            set(2, 1)
            tick(1, 0) = 60
            set(1, 9)
            set(0, 51)
            tick(1, 0)
            boiler(0, 2) = 2
            undo()
            set(0, 50)
            tick(1, 0)
            boiler(0, 2) = 3
            """);
        Edge.edge("greater than the goal plus the band: the kill as the goal", """
            load H29999b010t8383
            set(3, 90)
            set(4, 9)
            set(5, 0)
            set(2, 1)
            tick(1, 0) = 80
            boiler(0, 2) = 2
            set(3, 77)
            tick(1, 0)
            boiler(0, 2) = 2
            undo()
            set(3, 76)
            tick(1, 0)
            boiler(0, 2) = 3
            """);
        Edge.edge("some boiler fires: one that purges does not go to standby", """
            load H29999b010t5656
            set(5, 23)
            tick(1, 0)
            boiler(0, 2) = 1
            set(0, 40)
            tick(1, 0)
            boiler(0, 2) = 2
            boiler(0, 6) = 0
            tick(1, 0)
            boiler(0, 2) = 3
            """);
    }

    private static void whoStarts() {
        Edge.edge("the one that fired in the fewest ticks starts", """
            load H29999b010b010b010t2020
            set(5, 23)
            set(2, 1)
            tick(4, 0)
            boilers 4 = 3 2 1
            setFlue(0, false) = 3
            setFlue(0, true) = 0
            next() = 2
            tick(1, 0)
            boilers 2 = 0 0 2
            boilers 5 = 1 1 2
            """);
        Edge.edge("among several the one with the smallest number: none fired yet", """
            load H29999b010b010b010t2020
            next() = 0
            tick(1, 0)
            boilers 2 = 1 0 0
            next() = 1
            """);
        Edge.edge("among several the one with the smallest number: each fired once", """
            load H29999b010b010t2020
            set(5, 23)
            set(2, 1)
            tick(2, 0)
            lock(0) = 2
            tick(1, 0)
            boilers 4 = 1 1
            unlock(0) = 0
            setFlue(0, false) = 1
            setFlue(0, true) = 0
            next() = 0
            tick(1, 0)
            boilers 5 = 2 1
            """);
        Edge.edge("of those that can start: the first in the turn has no draft", """
            load H21030b200b101b150t2020
            next() = 1
            tick(1, 0)
            boilers 2 = 0 1 0
            setDraft(0, 15)
            tick(1, 0)
            boilers 2 = 0 2 1
            setDraft(0, 34)
            tick(1, 0)
            boilers 2 = 0 2 2
            about(10) = 1
            setDraft(0, 35)
            tick(1, 0)
            boilers 2 = 1 2 2
            about(10) = 0
            """);
        Edge.edge("one starts in a tick, and no more", """
            load H89999b010b010b010b011b011t0000000000000000
            tick(1, 0)
            boilers 5 = 1 0 0 0 0
            tick(3, 0)
            boilers 5 = 1 1 1 1 0
            tick(1, 0)
            boilers 5 = 1 1 1 1 1
            about(10) = 0
            tick(1, 0)
            boilers 5 = 1 1 1 1 1
            about(10) = 3
            """);
    }

    private static void aPurgeLastsAsTheSettingTells() {
        Edge.edge("it purges for as many ticks as the purge tells: the least, 1", """
            load H29999b010t2020
            set(2, 1)
            tick(1, 0)
            boiler(0, 2) = 2
            boiler(0, 3) = 0
            boiler(0, 4) = 0
            tick(1, 0)
            boiler(0, 4) = 1
            """);
        Edge.edge("it purges for as many ticks as the purge tells: the most, 5", """
            load H29999b010t2020
            set(2, 5)
            tick(1, 0)
            boiler(0, 2) = 1
            boiler(0, 3) = 4
            tick(3, 0)
            boiler(0, 2) = 1
            boiler(0, 3) = 1
            tick(1, 0)
            boiler(0, 2) = 2
            boiler(0, 3) = 0
            boiler(0, 4) = 0
            tick(1, 0)
            boiler(0, 4) = 1
            """);
        Edge.edge("its count of starts increases by 1: at the start, and not while it purges or fires", """
            load H29999b010t2020
            set(2, 5)
            tick(1, 0)
            boiler(0, 5) = 1
            tick(10, 0)
            boiler(0, 5) = 1
            """);
    }

    private static void fromStandbyItFiresAtOnce() {
        Edge.edge("from standby it fires at once, with heat and fuel in this tick; its starts increase by 1", """
            load H29999b020t5050
            set(5, 23)
            set(2, 1)
            set(0, 80)
            tick(2, 0) = 49
            set(0, 40)
            tick(1, 0) = 48
            boiler(0, 2) = 3
            boiler(0, 5) = 1
            boiler(0, 6) = 3
            set(0, 80)
            set(2, 5)
            tick(1, 0) = 48
            boiler(0, 2) = 2
            boiler(0, 3) = 0
            boiler(0, 4) = 2
            boiler(0, 5) = 2
            boiler(0, 6) = 5
            account(0) = 4
            """);
    }

    private static void reasons() {
        Edge.edge("the reason is 1 if some boiler is off and its flue is open", """
            load H20000b010b011t2020
            setFlue(0, false) = 0
            tick(1, 0)
            about(10) = 1
            """);
        Edge.edge("the reason is 1 if some boiler is on standby and its flue is open", """
            load H29999b020t5050
            set(5, 23)
            set(2, 1)
            set(0, 80)
            tick(2, 0)
            set(0, 40)
            tick(1, 0)
            boiler(0, 2) = 3
            setDraft(0, 1)
            set(0, 80)
            tick(1, 0)
            about(10) = 1
            boiler(0, 2) = 3
            """);
        Edge.edge("otherwise 2 if some boiler is off: all flues of those that are off are shut", """
            load H29999b010b011b011t2020
            tick(1, 0)
            setFlue(1, false) = 0
            lock(1)
            tick(1, 0)
            about(10) = 2
            lock(2)
            tick(1, 0)
            about(10) = 3
            """);
        Edge.edge("otherwise 3: each one purges or fires", """
            load H29999b010b010t2020
            tick(2, 0)
            about(10) = 0
            tick(1, 0)
            boilers 2 = 2 2
            about(10) = 3
            """);
        Edge.edge("otherwise 3: all are locked, at open flues and at shut ones", """
            load H29999b010b011t2020
            lock(0)
            lock(1)
            setFlue(1, false) = 0
            tick(1, 0)
            about(10) = 3
            """);
        Edge.edge("in all other cases the reason is 0: one starts, while another one has no draft", """
            load H29900b010b011t2020
            tick(1, 0)
            boilers 2 = 1 0
            about(10) = 0
            """);
        Edge.edge("in all other cases the reason is 0: within the band, when none can start", """
            load H20000b010t5757
            tick(1, 0) = 56
            about(10) = 0
            tick(1, 0)
            about(10) = 1
            """);
        Edge.edge("in all other cases the reason is 0: too warm, and none fires", """
            load H20000b010t5555
            tick(1, 0) = 54
            about(10) = 1
            set(0, 40)
            tick(1, 0)
            about(10) = 0
            """);
        Edge.edge("the reason of one tick does not stay in the next one", """
            load H20000b010t5555
            tick(1, 0)
            about(10) = 1
            set(0, 57)
            tick(1, 0)
            about(10) = 0
            """);
    }

    private static void whoGoesToStandby() {
        Edge.edge("the one that fired in the most ticks goes to standby", """
            load H29999b010b010b010t5050
            set(5, 23)
            set(0, 80)
            set(2, 1)
            tick(4, 0)
            boilers 4 = 3 2 1
            set(0, 40)
            tick(1, 0)
            boilers 2 = 3 2 2
            tick(1, 0)
            boilers 2 = 3 3 2
            """);
        Edge.edge("among several the one with the greatest number: none fired yet", """
            load H29999b010b010t5050
            set(5, 23)
            set(0, 80)
            set(2, 2)
            tick(1, 0)
            set(2, 1)
            tick(1, 0)
            boilers 2 = 2 2
            boilers 4 = 0 0
            set(0, 40)
            tick(1, 0)
            boilers 2 = 2 3
            boilers 4 = 1 0
            """);
        Edge.edge("among several the one with the greatest number: each fired twice", """
            load H29999b010b010b010t5050
            set(5, 23)
            set(0, 80)
            set(2, 3)
            tick(1, 0)
            set(2, 2)
            tick(1, 0)
            set(2, 1)
            tick(3, 0)
            boilers 4 = 2 2 2
            set(0, 40)
            tick(1, 0)
            boilers 2 = 2 2 3
            """);
        Edge.edge("some boiler fires: when none does, nothing changes", """
            load H29999b010b010t9090
            tick(1, 0)
            boilers 2 = 0 0
            boilers 6 = 0 0
            about(10) = 0
            """);
    }

    private static void thePurgeEndsBehindItsTick() {
        Edge.edge("at 0 its state is firing behind this tick, but its heat, fuel and count begin with the next", """
            load H29999b100t2020
            tick(1, 0) = 20
            boiler(0, 2) = 1
            boiler(0, 3) = 1
            tick(1, 0) = 20
            boiler(0, 2) = 2
            boiler(0, 3) = 0
            boiler(0, 4) = 0
            boiler(0, 6) = 0
            account(0) = 0
            account(4) = 0
            tick(1, 0) = 25
            boiler(0, 4) = 1
            boiler(0, 6) = 10
            account(0) = 10
            account(4) = 10
            """);
    }

    private static void theFuelOfAStandby() {
        Edge.edge("if it is on standby (be it only since part 2), its fuel increases by 1", """
            load H29999b300t5050
            set(5, 23)
            set(0, 80)
            set(2, 1)
            tick(1, 0)
            set(0, 40)
            boiler(0, 2) = 2
            tick(1, 0)
            boiler(0, 2) = 3
            boiler(0, 4) = 0
            boiler(0, 6) = 1
            account(0) = 0
            tick(1, 0)
            boiler(0, 6) = 2
            putOff(0) = 2
            tick(1, 0)
            boiler(0, 6) = 2
            """);
        Edge.edge("one that is off, locked or purges takes no fuel", """
            load H29999b300b300b300t2020
            set(2, 5)
            set(5, 23)
            lock(1)
            setDraft(0, 30)
            tick(4, 0)
            boilers 2 = 1 4 0
            boilers 6 = 0 0 0
            account(4) = 0
            """);
    }

    private static void heatGoesToTheColdest() {
        Edge.edge("each unit goes to the layer with the smallest temperature: one unit", """
            load H39999b010t051010
            set(2, 1)
            tick(2, 0)
            layers = 6 10 10
            """);
        Edge.edge("each unit goes to the layer with the smallest temperature: up to the next layer and beyond", """
            load H39999b060t050810
            set(2, 1)
            tick(1, 0)
            # three units bring the lowest to 8, then they go to both
            tick(1, 0)
            layers = 9 10 10
            """);
        Edge.edge("the lowest one need not be the coldest one behind a draw", """
            load H39999b050t000509
            set(2, 1)
            tick(1, 0)
            draw(1) = 9
            layers = 10 0 5
            tick(1, 0)
            layers = 5 5 10
            """);
    }

    private static void heatBeyondNinetyNineIsLost() {
        Edge.edge("if all layers have 99, the unit is lost: the last unit that is taken", """
            load H29900b300b260t7575
            set(3, 90)
            set(1, 9)
            set(5, 0)
            set(2, 2)
            tick(1, 0) = 73
            set(2, 1)
            tick(1, 0) = 71
            boilers 2 = 2 2
            account(3) = 8
            # 56 units bring 71 71 just to 99 99, then each loses 3
            tick(1, 0) = 96
            layers = 96 96
            account(0) = 56
            account(3) = 14
            """);
        Edge.edge("if all layers have 99, the unit is lost: the first unit that is lost", """
            load H29900b300b270t7575
            set(3, 90)
            set(1, 9)
            set(5, 0)
            set(2, 2)
            tick(1, 0) = 73
            set(2, 1)
            tick(1, 0) = 71
            # 57 units: one of them is lost
            tick(1, 0) = 96
            layers = 96 96
            account(0) = 57
            account(3) = 15
            """);
        Edge.edge("if all layers have 99, the unit is lost: it counts as given and as lost", """
            load H29900b290b300t8080
            set(3, 90)
            set(1, 1)
            set(4, 9)
            set(5, 0)
            set(2, 1)
            tick(1, 0) = 77
            # 29 units for 77 77 make 91 92, less 3 each
            tick(1, 0) = 88
            layers = 88 89
            account(0) = 29
            account(3) = 12
            # 59 units: 21 of them are taken, 38 are lost, and 6 more at 99
            tick(1, 0) = 96
            layers = 96 96
            account(0) = 88
            account(3) = 56
            """);
        Edge.edge("if one layer is below 99, no unit is lost", """
            load H29900b300b300t8080
            set(3, 90)
            set(1, 1)
            set(4, 9)
            set(5, 0)
            set(2, 1)
            tick(2, 0) = 89
            account(3) = 12
            draw(1) = 89
            # 60 units for 10 89: 10 becomes 70, and loses 2, 89 loses 3
            tick(1, 0) = 77
            layers = 68 86
            account(0) = 90
            account(3) = 17
            """);
    }

    private static void lossesBeginAboveTwenty() {
        int[] before = {0, 1, 19, 20, 21, 39, 40, 59, 60, 79, 80, 99};
        int[] loss = {0, 0, 0, 0, 0, 0, 1, 1, 2, 2, 3, 3};
        for (int k = 0; k < before.length; k++) {
            String two = (before[k] < 10 ? "0" : "") + before[k];
            int after = before[k] - loss[k];
            Edge.edge("a layer above 20 loses (temperature - 20) / 20 units, rounded down: " + before[k],
                    "load H20000b010t" + two + two + "\ntick(1, 0) = " + after + "\nlayers = " + after + " " + after
                    + "\naccount(3) = " + 2 * loss[k] + "\naccount(0) = 0");
        }
    }

    private static void layersArePutInOrder() {
        Edge.edge("the layers are put in order: the warmest one becomes the highest one", """
            load H40000b010t10121418
            draw(3) = 44
            layers = 10 10 10 10
            load H40000b010t05060708
            draw(2) = 15
            layers = 10 10 5 6
            tick(1, 0)
            layers = 5 6 10 10
            """);
        Edge.edge("they are put in order behind the losses", """
            load H20000b010t3940
            tick(1, 0)
            layers = 39 39
            load H30000b010t395960
            tick(1, 0)
            layers = 39 58 58
            """);
        Edge.edge("drawing does not put layers in order", """
            load H89999b010t0001020304050607
            draw(3) = 18
            layers = 10 10 10 0 1 2 3 4
            tick(1, 0)
            layers = 0 1 2 3 4 10 10 10
            """);
    }

    private static void theTickInWhichItBeganCounts() {
        Edge.edge("its ticks increase by 1 (the tick in which it began counts)", """
            load H20000b010t4040
            set(5, 0)
            about(13) = 0
            tick(1, 0)
            about(13) = 1
            tick(1, 0)
            about(13) = 2
            """);
    }

    private static void allLayersMustHaveTheKill() {
        Edge.edge("all layers have at least the kill: just the kill is enough", """
            load H20000b010t7272
            set(5, 0)
            tick(1, 0) = 70
            about(12) = 1
            """);
        Edge.edge("all layers have at least the kill: one of them is one degree below", """
            load H80000b010t7199999999999999
            set(5, 0)
            tick(1, 0)
            layer(0) = 69
            about(12) = 0
            about(13) = 1
            """);
        Edge.edge("the setting as it is then: it was set while the kill goes on", """
            load H20000b010t7272
            set(5, 0)
            set(4, 3)
            tick(1, 0) = 70
            set(3, 68)
            tick(1, 0) = 68
            about(12) = 2
            undo()
            set(3, 69)
            tick(1, 0) = 68
            about(12) = 0
            """);
        Edge.edge("otherwise it becomes 0, and counts from there", """
            load H20000b010t7474
            set(5, 0)
            set(4, 9)
            tick(3, 0) = 68
            about(12) = 0
            about(13) = 3
            set(3, 60)
            tick(1, 0)
            about(12) = 1
            about(13) = 4
            """);
        Edge.edge("the least kill and the greatest one", """
            load H20000b010t6262
            set(5, 0)
            set(3, 60)
            tick(1, 0) = 60
            about(12) = 1
            load H20000b010t9393
            set(5, 0)
            set(3, 90)
            tick(1, 0) = 90
            about(12) = 1
            tick(1, 0) = 87
            about(12) = 0
            """);
    }

    private static void theRunReachesTheHold() {
        Edge.edge("if its run is at least the hold: the least hold, 1, in the tick in which it began", """
            load H20000b010t7272
            set(5, 0)
            set(4, 1)
            tick(1, 0)
            about(14) = 1
            about(15) = 0
            about(11) = 0
            about(12) = 0
            about(13) = 0
            """);
        Edge.edge("if its run is at least the hold: one less is not", """
            load H20000b010t9999
            set(5, 0)
            set(3, 60)
            tick(1, 0)
            about(12) = 1
            about(14) = 0
            tick(1, 0)
            about(11) = 0
            about(14) = 1
            """);
        Edge.edge("if its run is at least the hold: the greatest hold, 9", """
            load H20000b010t9999
            set(5, 0)
            set(3, 60)
            set(4, 9)
            tick(8, 0)
            about(12) = 8
            about(14) = 0
            tick(1, 0)
            about(11) = 0
            about(14) = 1
            about(15) = 0
            """);
        Edge.edge("if its run is at least the hold: a run that is already more than a new hold", """
            load H20000b010t9999
            set(5, 0)
            set(3, 60)
            set(4, 9)
            tick(5, 0)
            set(4, 2)
            about(11) = 1
            about(12) = 5
            tick(1, 0)
            about(11) = 0
            about(14) = 1
            """);
        Edge.edge("a run that breaks off does not reach a new hold of its old length", """
            load H20000b010t7474
            set(5, 0)
            set(4, 9)
            tick(2, 0) = 70
            about(12) = 2
            set(4, 2)
            tick(1, 0) = 68
            about(11) = 1
            about(14) = 0
            """);
    }

    private static void twelveTicksAreTheMost() {
        Edge.edge("if its ticks are 12, it is over and counted as failed: 11 are not", """
            load H20000b010t4040
            set(5, 0)
            tick(11, 0)
            about(11) = 1
            about(13) = 11
            about(15) = 0
            """);
        Edge.edge("if its ticks are 12, it is over and counted as failed", """
            load H20000b010t4040
            set(5, 0)
            tick(12, 0)
            about(11) = 0
            about(12) = 0
            about(13) = 0
            about(14) = 0
            about(15) = 1
            """);
        Edge.edge("a run that is too short in the tick 12 fails too", """
            load H20000b010t9999
            set(5, 0)
            set(4, 9)
            set(3, 90)
            tick(10, 0)
            set(3, 60)
            tick(1, 0)
            about(12) = 1
            tick(1, 0)
            about(11) = 0
            about(12) = 0
            about(14) = 0
            about(15) = 1
            """);
        Edge.edge("it is over and counted as done; otherwise, if its ticks are 12: both in one tick is done", """
            load H20000b010t9999
            set(5, 0)
            set(4, 9)
            set(3, 90)
            tick(10, 0)
            set(3, 60)
            set(4, 2)
            tick(1, 0)
            about(12) = 1
            about(13) = 11
            tick(1, 0)
            about(11) = 0
            about(14) = 1
            about(15) = 0
            """);
    }

    private static void whatIsOverDoesNotBeginAnew() {
        Edge.edge("one that is over does not begin anew in this tick: it was done at the night", """
            load H20000b010t9999
            set(5, 0)
            set(4, 1)
            tick(1, 0)
            about(11) = 0
            about(14) = 1
            tick(1, 0)
            about(11) = 0
            about(14) = 1
            """);
        Edge.edge("one that is over does not begin anew in this tick: it failed at the night", """
            load H20000b010t4040
            set(5, 0)
            tick(11, 0)
            set(5, 11)
            tick(1, 0)
            about(11) = 0
            about(13) = 0
            about(15) = 1
            tick(1, 0)
            about(11) = 0
            """);
        Edge.edge("but in the next tick, if that is the night", """
            load H20000b010t4040
            set(5, 0)
            tick(12, 0)
            about(15) = 1
            set(5, 12)
            tick(1, 0)
            about(11) = 1
            about(13) = 1
            """);
    }

    private static void theClockIncreasesByOne() {
        Edge.edge("the clock increases by 1, also where nothing else happens", """
            load H20000b010t0000
            tick(1, 0) = 0
            about(8) = 1
            tick(96, 0) = 0
            about(8) = 97
            """);
    }

    private static void shuttingAFlue() {
        Edge.edge("shutting a flue locks no boiler; a locked one stays locked", """
            load H29999b010b010t2020
            lock(1)
            tick(1, 0)
            setFlue(0, false) = 1
            boilers 2 = 0 4
            """);
        Edge.edge("a boiler that goes off has no ticks of its purge left", """
            load H29999b010t2020
            set(2, 5)
            tick(1, 0)
            boiler(0, 3) = 4
            setFlue(0, false) = 1
            boiler(0, 3) = 0
            setFlue(0, true)
            tick(1, 0)
            boiler(0, 3) = 4
            boiler(0, 5) = 2
            """);
        Edge.edge("a boiler that is locked has no ticks of its purge left", """
            load H29999b010t2020
            set(2, 5)
            tick(1, 0)
            lock(0) = 1
            boiler(0, 3) = 0
            unlock(0) = 0
            boiler(0, 2) = 0
            boiler(0, 3) = 0
            """);
        Edge.edge("each one goes off at once: it gives no heat in the next tick", """
            load H29999b300b301t2020
            set(2, 1)
            tick(2, 0)
            account(0) = 30
            setFlue(0, false) = 1
            boilers 2 = 0 2
            tick(1, 0)
            account(0) = 60
            boilers 4 = 1 1
            """);
    }
}
