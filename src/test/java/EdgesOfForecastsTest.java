/** The boundary cases of promises 23 to 26, sentence by sentence. */
public final class EdgesOfForecastsTest {
    public static void main(String[] args) {
        ticksAheadAreOneTo96();
        drawsAheadAreZeroToFive();
        numbersAheadAreZeroToSix();
        inTheseTicks();
        theSmallestMean();
        theTemperatureIsZeroTo99();
        drawsUntilItIsWarm();
        zeroTicks();
        oneTick();
        twoHundredTicks();
        atLeastTheTemperature();
        ticksToBear();
        theLeastTemperature();
        zeroToFiveDraws();
        whateverIsSoWithFewer();
        afterEachOfTheTicks();
        atLeastThisTemperature();
        ticksOfTheCheapestPurge();
        drawsOfTheCheapestPurge();
        amongSeveralTheSmallestPurge();
        whoPurgesKeepsTheTicksLeft();
        Check.end("EdgesOfForecastsTest");
    }

    private static void ticksAheadAreOneTo96() {
        Edge.edge("ahead: m, 1 to 96", """
            ahead(0, 0, 0) = IllegalArgument
            ahead(-1, 0, 0) = IllegalArgument
            ahead(97, 0, 0) = IllegalArgument
            ahead(-2147483648, 0, 0) = IllegalArgument
            ahead(2147483647, 0, 0) = IllegalArgument
            ahead(1, 0, 0) = 39
            ahead(96, 5, 0)
            """);
        Edge.edge("ahead: the ticks 96 are the same as the ticks 96 of tick", """
            load H20000b010t5099
            ahead(96, 5, 2) = 4929
            ahead(96, 5, 0) = 10
            tick(96, 5) = 10
            account(2) = 4929
            """);
    }

    private static void drawsAheadAreZeroToFive() {
        Edge.edge("ahead: how often is drawn ahead of each tick, 0 to 5", """
            ahead(1, -1, 0) = IllegalArgument
            ahead(1, 6, 0) = IllegalArgument
            ahead(1, -2147483648, 0) = IllegalArgument
            ahead(1, 2147483647, 0) = IllegalArgument
            ahead(1, 0, 2) = 0
            ahead(1, 1, 2) = 40
            ahead(1, 4, 2) = 160
            ahead(1, 5, 2) = 170
            """);
    }

    private static void numbersAheadAreZeroToSix() {
        Edge.edge("ahead: what, 0 to 6", """
            ahead(1, 0, -1) = IllegalArgument
            ahead(1, 0, 7) = IllegalArgument
            ahead(1, 0, -2147483648) = IllegalArgument
            ahead(1, 0, 2147483647) = IllegalArgument
            ahead(3, 0, 0) = 40
            ahead(3, 0, 1) = 41
            ahead(3, 0, 2) = 0
            ahead(3, 0, 3) = 10
            ahead(3, 0, 4) = 1
            ahead(3, 0, 5) = 0
            ahead(3, 0, 6) = 39
            """);
    }

    private static void inTheseTicks() {
        Edge.edge("in these ticks, and not in those before: delivered heat, fuel, starts, kills", """
            load H29999b300t9999
            set(5, 0)
            set(4, 1)
            ahead(1, 0, 5) = 1
            tick(1, 5)
            about(14) = 0
            set(2, 1)
            tick(12, 0)
            about(14) = 1
            ahead(1, 0, 5) = 0
            ahead(1, 0, 4) = 0
            ahead(2, 0, 2) = 0
            """);
        Edge.edge("fuel and starts in these ticks: one more start, from off", """
            load H29999b010b020t1010
            set(2, 1)
            tick(1, 0)
            ahead(1, 0, 3) = 1
            ahead(1, 0, 4) = 1
            ahead(3, 0, 3) = 7
            ahead(3, 0, 4) = 1
            """);
        Edge.edge("fuel and starts in these ticks, and not in those before: of all boilers", """
            load H29999b010b020t1010
            set(2, 1)
            set(5, 23)
            tick(3, 0)
            account(4) = 4
            boilers 5 = 1 1
            ahead(1, 0, 3) = 3
            ahead(1, 0, 4) = 0
            setFlue(0, false) = 2
            setFlue(0, true) = 0
            ahead(1, 0, 4) = 1
            ahead(2, 0, 4) = 2
            ahead(3, 0, 4) = 2
            ahead(2, 0, 3) = 2
            """);
        Edge.edge("starts in these ticks: one boiler of one, and each of five", """
            load H29999b010
            ahead(1, 0, 4) = 1
            ahead(96, 0, 4) = 1
            load H29999b010b010b010b010b010t1010
            ahead(1, 0, 4) = 1
            ahead(5, 0, 4) = 5
            ahead(6, 0, 4) = 5
            """);
        Edge.edge("kills that are done in these ticks: none that failed", """
            load H20000b010t4040
            set(5, 0)
            ahead(12, 0, 5) = 0
            load H20000b010t9999
            set(5, 0)
            ahead(1, 0, 5) = 0
            ahead(2, 0, 5) = 1
            ahead(24, 0, 5) = 1
            """);
    }

    private static void theSmallestMean() {
        Edge.edge("the smallest mean after each of these ticks: one tick", """
            ahead(1, 0, 6) = 39
            ahead(1, 5, 6) = 10
            """);
        Edge.edge("the smallest mean after each of these ticks: not that of now, when it becomes warmer", """
            load H29999b300t1010
            set(2, 1)
            tick(1, 0)
            ahead(1, 0, 6) = 25
            ahead(2, 0, 6) = 25
            ahead(2, 0, 0) = 39
            """);
        Edge.edge("the smallest mean after each of these ticks: that of the last one, when it becomes colder", """
            load H20000b010t9999
            ahead(1, 0, 6) = 96
            ahead(3, 0, 6) = 90
            ahead(9, 0, 6) = 74
            """);
    }

    private static void theTemperatureIsZeroTo99() {
        Edge.edge("warmAfter: temperature, 0 to 99", """
            warmAfter(-1, 0) = IllegalArgument
            warmAfter(100, 0) = IllegalArgument
            warmAfter(-2147483648, 0) = IllegalArgument
            warmAfter(2147483647, 0) = IllegalArgument
            warmAfter(0, 0) = 0
            warmAfter(99, 0) = NONE
            load H29999b010t9999
            warmAfter(99, 0) = 0
            """);
    }

    private static void drawsUntilItIsWarm() {
        Edge.edge("warmAfter: draws, 0 to 5", """
            load H40000b010t00000000
            warmAfter(0, -1) = IllegalArgument
            warmAfter(0, 6) = IllegalArgument
            warmAfter(0, -2147483648) = IllegalArgument
            warmAfter(0, 2147483647) = IllegalArgument
            # nothing heats but the water of 10 degrees that comes in
            warmAfter(1, 0) = NONE
            warmAfter(10, 5) = 1
            warmAfter(11, 5) = NONE
            """);
    }

    private static void zeroTicks() {
        Edge.edge("for 0 ticks the mean as it is now counts, without draws", """
            load H29999b010t5051
            warmAfter(50, 5) = 0
            warmAfter(50, 0) = 0
            warmAfter(51, 5) = NONE
            load H20000b010t9999
            warmAfter(99, 5) = 0
            """);
    }

    private static void oneTick() {
        Edge.edge("the smallest number of ticks: 1 is the first with a tick", """
            load H29999b300t1010
            set(2, 1)
            tick(1, 0)
            warmAfter(10, 0) = 0
            warmAfter(11, 0) = 1
            warmAfter(25, 0) = 1
            warmAfter(26, 0) = 2
            """);
        Edge.edge("the smallest number of ticks, also if it is colder again later", """
            load H29900b300t1010
            set(2, 1)
            tick(3, 0)
            about(9) = 39
            warmAfter(50, 0) = 1
            warmAfter(53, 0) = 1
            warmAfter(54, 0) = 2
            warmAfter(40, 3) = NONE
            """);
    }

    private static void twoHundredTicks() {
        Edge.edge("0 to 200 ticks: 200 is taken, 201 is not", """
            load H89999b010t0000000000000000
            set(2, 1)
            # one unit in each tick but the first one, and eight units make a degree
            warmAfter(24, 0) = 193
            warmAfter(25, 0) = NONE
            tick(1, 0)
            warmAfter(25, 0) = 200
            warmAfter(26, 0) = NONE
            tick(1, 0)
            warmAfter(25, 0) = 199
            """);
        Edge.edge("0 to 200 ticks: in the tick 200 it becomes warmer than it must be", """
            load H33614b090b071t161616
            set(0, 67)
            set(1, 9)
            set(2, 5)
            set(3, 68)
            set(4, 7)
            set(5, 0)
            tick(24, 0)
            # the kill of this night brings it from 77 at the most to 79
            warmAfter(78, 0) = 200
            warmAfter(79, 0) = 200
            warmAfter(80, 0) = NONE
            """);
    }

    private static void atLeastTheTemperature() {
        Edge.edge("the mean is at least the temperature: as it is rounded down", """
            load H29999b010t3940
            warmAfter(39, 0) = 0
            warmAfter(40, 5) = NONE
            """);
    }

    private static void ticksToBear() {
        Edge.edge("bearable: m, 1 to 96", """
            bearable(0, 40) = IllegalArgument
            bearable(-1, 40) = IllegalArgument
            bearable(97, 40) = IllegalArgument
            bearable(-2147483648, 40) = IllegalArgument
            bearable(2147483647, 40) = IllegalArgument
            bearable(1, 10) = 5
            bearable(96, 10) = 5
            """);
    }

    private static void theLeastTemperature() {
        Edge.edge("bearable: least, 10 to 80", """
            bearable(1, 9) = IllegalArgument
            bearable(1, 81) = IllegalArgument
            bearable(1, -2147483648) = IllegalArgument
            bearable(1, 2147483647) = IllegalArgument
            bearable(1, 10) = 5
            bearable(1, 80) = NONE
            load H29999b010t9999
            bearable(1, 80) = 1
            """);
    }

    private static void zeroToFiveDraws() {
        Edge.edge("the greatest number of draws, 0 to 5: each of them", """
            load H80000b010t2030304050606060
            bearable(1, 58) = 2
            bearable(1, 49) = 3
            bearable(1, 39) = 4
            bearable(1, 30) = 5
            bearable(1, 10) = 5
            load H20000b010t3060
            bearable(1, 58) = 0
            bearable(1, 30) = 1
            bearable(1, 59) = NONE
            """);
    }

    private static void whateverIsSoWithFewer() {
        Edge.edge("whatever is so with fewer: without draws it stays colder than the water that comes in", """
            load H20000b010t0000
            ahead(1, 0, 1) = 0
            bearable(1, 10) = 5
            bearable(96, 10) = 5
            bearable(1, 11) = NONE
            """);
    }

    private static void afterEachOfTheTicks() {
        Edge.edge("after each of the m ticks: not so after the first one alone", """
            load H29999b300t1010
            set(2, 1)
            tick(1, 0)
            ahead(2, 0, 1) = 39
            bearable(2, 26) = NONE
            bearable(2, 25) = 5
            """);
        Edge.edge("after each of the m ticks: not so after the last one alone", """
            load H20000b010t6060
            bearable(1, 58) = 1
            bearable(2, 58) = NONE
            bearable(2, 57) = 0
            """);
    }

    private static void atLeastThisTemperature() {
        Edge.edge("the highest layer has at least this temperature: just this, and one more", """
            load H40000b010t30303060
            bearable(1, 58) = 0
            bearable(1, 59) = NONE
            bearable(1, 31) = 0
            bearable(1, 30) = 3
            """);
    }

    private static void ticksOfTheCheapestPurge() {
        Edge.edge("cheapestPurge: m, 1 to 96", """
            cheapestPurge(0, 0) = IllegalArgument
            cheapestPurge(-1, 0) = IllegalArgument
            cheapestPurge(97, 0) = IllegalArgument
            cheapestPurge(-2147483648, 0) = IllegalArgument
            cheapestPurge(2147483647, 0) = IllegalArgument
            cheapestPurge(1, 0) = 1
            cheapestPurge(96, 5) = 5
            """);
    }

    private static void drawsOfTheCheapestPurge() {
        Edge.edge("cheapestPurge: draws, 0 to 5", """
            cheapestPurge(1, -1) = IllegalArgument
            cheapestPurge(1, 6) = IllegalArgument
            cheapestPurge(1, -2147483648) = IllegalArgument
            cheapestPurge(1, 2147483647) = IllegalArgument
            cheapestPurge(3, 0) = 3
            cheapestPurge(3, 5) = 3
            """);
    }

    private static void amongSeveralTheSmallestPurge() {
        Edge.edge("the purge from 1 to 5, among several the smallest one: each of them", """
            # m ticks need no fuel if the purge lasts through all of them
            cheapestPurge(1, 0) = 1
            cheapestPurge(2, 0) = 2
            cheapestPurge(3, 0) = 3
            cheapestPurge(4, 0) = 4
            cheapestPurge(5, 0) = 5
            cheapestPurge(6, 0) = 5
            """);
        Edge.edge("among several the smallest one: no boiler starts, whatever the purge is", """
            load H29999b010t9999
            set(2, 5)
            cheapestPurge(5, 0) = 1
            about(2) = 5
            """);
    }

    private static void whoPurgesKeepsTheTicksLeft() {
        Edge.edge("set now; who purges keeps the ticks left", """
            set(2, 4)
            tick(1, 0)
            boiler(0, 3) = 3
            cheapestPurge(5, 0) = 1
            boiler(0, 3) = 3
            """);
        Edge.edge("who starts later in these ticks purges as long as the purge tells", """
            load H29999b010b010t1010
            set(2, 1)
            tick(1, 0)
            # the first one fires on in each case; the second one begins to purge in the first of these ticks
            cheapestPurge(1, 0) = 1
            cheapestPurge(4, 0) = 4
            """);
    }
}
