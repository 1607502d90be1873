/** The boundary cases of "Boilers and flues" and of "Tank", sentence by sentence. */
public final class EdgesOfTermsTest {
    public static void main(String[] args) {
        boilersAreOneToFive();
        boilersAreNumberedFromZero();
        powersAreOneToThirty();
        theFlueOfABoilerIsZeroOrOne();
        everyBoilerIsAtFirstOff();
        draftsAreZeroToNinetyNine();
        fluesAreAtFirstOpen();
        theUseIsOfThoseThatPurgeOrFire();
        aBoilerCanStartUpToTheDraft();
        alsoOneOnStandbyNeedsTheDraft();
        eachSettingHasItsRange();
        aNewObject();
        layersAreTwoToEight();
        layersAreNumberedFromTheLowest();
        temperaturesAreZeroToNinetyNine();
        temperaturesAreAtFirstForty();
        theMeanIsRoundedDown();
        toDrawOnce();
        toDrawAsOftenAsThereAreLayers();
        Check.end("EdgesOfTermsTest");
    }

    private static void boilersAreOneToFive() {
        Edge.edge("there are n boilers, 1 to 5: one is the least", """
            load H29999b100
            about(6) = 1
            write H29999
            errorPosition() = 6
            load() = IllegalState
            about(6) = 1
            """);
        Edge.edge("there are n boilers, 1 to 5: five are the most", """
            load H29999b100b111b120b131b140
            about(6) = 5
            flue(0, 3) = 3
            flue(1, 3) = 2
            write H29999b100b111b120b131b140b150
            errorPosition() = 26
            load() = IllegalState
            about(6) = 5
            """);
    }

    private static void boilersAreNumberedFromZero() {
        Edge.edge("boilers are numbered from 0: one boiler", """
            boiler(0, 0) = 10
            boiler(1, 0) = IndexOutOfBounds
            boiler(-1, 0) = IndexOutOfBounds
            """);
        Edge.edge("boilers are numbered from 0: five boilers", """
            load H29999b100b111b120b131b140
            boilers 0 = 10 11 12 13 14
            boilers 1 = 0 1 0 1 0
            boiler(4, 0) = 14
            boiler(5, 0) = IndexOutOfBounds
            boiler(-1, 0) = IndexOutOfBounds
            """);
        Edge.edge("boilers that there were before a load with fewer do not exist", """
            load H29999b100b111b120b131b140
            load H29999b100b110
            boiler(1, 0) = 11
            boiler(2, 0) = IndexOutOfBounds
            lock(2) = IndexOutOfBounds
            whyNot(2) = IndexOutOfBounds
            flue(0, 3) = 2
            flue(1, 3) = 0
            """);
    }

    private static void powersAreOneToThirty() {
        Edge.edge("a power from 1 to 30: 0 is refused", """
            write H29999b000
            errorPosition() = 8
            load() = IllegalState
            boiler(0, 0) = 10
            """);
        Edge.edge("a power from 1 to 30: 1 is taken", """
            load H29999b010
            boiler(0, 0) = 1
            """);
        Edge.edge("a power from 1 to 30: 30 is taken", """
            load H29999b300
            boiler(0, 0) = 30
            """);
        Edge.edge("a power from 1 to 30: 31 is refused", """
            write H29999b310
            errorPosition() = 8
            load() = IllegalState
            boiler(0, 0) = 10
            """);
    }

    private static void theFlueOfABoilerIsZeroOrOne() {
        Edge.edge("a flue, 0 or 1: both are taken, 2 is refused", """
            load H29999b100b101
            boilers 1 = 0 1
            write H29999b102
            errorPosition() = 9
            load() = IllegalState
            boilers 1 = 0 1
            """);
    }

    private static void everyBoilerIsAtFirstOff() {
        Edge.edge("a state, at first off; counts and fuel all 0 at first", """
            load H29999b100b111
            boilers 2 = 0 0
            boilers 3 = 0 0
            boilers 4 = 0 0
            boilers 5 = 0 0
            boilers 6 = 0 0
            """);
    }

    private static void draftsAreZeroToNinetyNine() {
        Edge.edge("a draft from 0 to 99: both ends are taken", """
            load H20099b100
            flue(0, 0) = 0
            flue(1, 0) = 99
            setDraft(0, 99) = 0
            setDraft(1, 0) = 99
            flue(0, 0) = 99
            flue(1, 0) = 0
            """);
        Edge.edge("a draft from 0 to 99: what is beyond is refused", """
            load H20099b100
            setDraft(0, -1) = IllegalArgument
            setDraft(0, 100) = IllegalArgument
            setDraft(1, -1) = IllegalArgument
            setDraft(1, 100) = IllegalArgument
            flue(0, 0) = 0
            flue(1, 0) = 99
            """);
    }

    private static void fluesAreAtFirstOpen() {
        Edge.edge("a flue is at first open", """
            flue(0, 2) = 1
            flue(1, 2) = 1
            setFlue(1, false) = 0
            load H29999b100
            flue(1, 2) = 1
            """);
    }

    private static void theUseIsOfThoseThatPurgeOrFire() {
        Edge.edge("the use of a flue is 0 if none of its boilers purges or fires", """
            load H29999b100b200b301
            lock(1) = 0
            flue(0, 1) = 0
            flue(1, 1) = 0
            """);
        Edge.edge("the use counts one that purges, one that fires, and not the other flue", """
            load H29999b100b200b301t2020
            tick(1, 0) = 20
            flue(0, 1) = 10
            # the first one fires behind its second tick, the second one purges
            tick(1, 0) = 20
            boilers 2 = 2 1 0
            flue(0, 1) = 30
            flue(1, 1) = 0
            tick(1, 0) = 25
            boilers 2 = 2 2 1
            flue(0, 1) = 30
            flue(1, 1) = 30
            lock(0) = 2
            flue(0, 1) = 20
            """);
        Edge.edge("one on standby is not in the use", """
            load H29999b020t5050
            set(5, 23)
            set(2, 1)
            set(0, 80)
            tick(2, 0) = 49
            flue(0, 1) = 2
            set(0, 40)
            tick(1, 0) = 48
            boiler(0, 2) = 3
            flue(0, 1) = 0
            """);
    }

    private static void aBoilerCanStartUpToTheDraft() {
        Edge.edge("the use plus its power is at most the draft: no use", """
            load H21099b100
            boiler(0, 7) = 1
            next() = 0
            whyNot(0) = 0
            setDraft(0, 9) = 10
            boiler(0, 7) = 0
            next() = NONE
            whyNot(0) = 4
            """);
        Edge.edge("the use plus its power is at most the draft: with use", """
            load H23000b100b200b011t2020
            tick(1, 0) = 20
            boiler(1, 7) = 1
            whyNot(1) = 0
            next() = 1
            setDraft(0, 29) = 30
            boiler(1, 7) = 0
            whyNot(1) = 4
            next() = NONE
            """);
        Edge.edge("the use of the other flue does not count", """
            load H21010b100b101t2020
            tick(1, 0) = 20
            flue(0, 1) = 10
            boiler(1, 7) = 1
            next() = 1
            """);
        Edge.edge("a boiler can start if its flue is open", """
            load H29900b100
            setFlue(0, false) = 0
            boiler(0, 7) = 0
            next() = NONE
            whyNot(0) = 3
            setFlue(0, true) = 0
            boiler(0, 7) = 1
            next() = 0
            whyNot(0) = 0
            """);
        Edge.edge("with a draft of 0 no boiler can start, the least one included", """
            load H20000b010
            boiler(0, 7) = 0
            next() = NONE
            tick(1, 0)
            boiler(0, 2) = 0
            about(10) = 1
            """);
        Edge.edge("with a draft of 99 three of the greatest power can start, and not a fourth", """
            load H29900b300b300b300b300b090t1010
            tick(3, 0)
            flue(0, 1) = 90
            boiler(3, 7) = 0
            boiler(4, 7) = 1
            next() = 4
            tick(1, 0)
            flue(0, 1) = 99
            next() = NONE
            """);
    }

    private static void alsoOneOnStandbyNeedsTheDraft() {
        Edge.edge("a boiler can start (also one on standby)", """
            load H29999b020t5050
            set(5, 23)
            set(2, 1)
            set(0, 80)
            tick(2, 0) = 49
            set(0, 40)
            tick(1, 0) = 48
            boiler(0, 2) = 3
            setDraft(0, 1) = 99
            boiler(0, 7) = 0
            next() = NONE
            whyNot(0) = 4
            setDraft(0, 2) = 1
            boiler(0, 7) = 1
            next() = 0
            whyNot(0) = 0
            """);
    }

    private static void eachSettingHasItsRange() {
        String[] names = {"the target (0), 40 to 80, at first 60", "the band (1), 1 to 9, at first 3",
            "the purge (2), 1 to 5, at first 2", "the kill (3), 60 to 90, at first 70",
            "the hold (4), 1 to 9, at first 2", "the night (5), 0 to 23, at first 2"};
        int[] least = {40, 1, 1, 60, 1, 0};
        int[] most = {80, 9, 5, 90, 9, 23};
        int[] first = {60, 3, 2, 70, 2, 2};
        for (int w = 0; w < names.length; w++) {
            String about = "about(" + w + ") = ";
            String set = "set(" + w + ", ";
            Edge.edge(names[w] + ": below the least", about + first[w] + "\n" + set + (least[w] - 1)
                    + ") = IllegalArgument\n" + about + first[w]);
            Edge.edge(names[w] + ": the least", set + least[w] + ") = " + first[w] + "\n" + about + least[w]);
            Edge.edge(names[w] + ": the most", set + most[w] + ") = " + first[w] + "\n" + about + most[w]);
            Edge.edge(names[w] + ": above the most", set + (most[w] + 1) + ") = IllegalArgument\n" + about + first[w]);
        }
    }

    private static void aNewObject() {
        Edge.edge("a new object has one boiler with the power 10 at flue 0, drafts of 50, a tank of 4 layers", """
            about(6) = 1
            boilers 0 = 10
            boilers 1 = 0
            boilers 2 = 0
            flue(0, 0) = 50
            flue(1, 0) = 50
            flue(0, 3) = 1
            flue(1, 3) = 0
            about(7) = 4
            layers = 40 40 40 40
            """);
    }

    private static void layersAreTwoToEight() {
        Edge.edge("the tank has L layers, 2 to 8: 1 is refused", """
            write H19999b100
            errorPosition() = 1
            load() = IllegalState
            about(7) = 4
            """);
        Edge.edge("the tank has L layers, 2 to 8: 2 are taken", """
            load H29999b100
            about(7) = 2
            layers = 40 40
            """);
        Edge.edge("the tank has L layers, 2 to 8: 8 are taken", """
            load H89999b100
            about(7) = 8
            layers = 40 40 40 40 40 40 40 40
            """);
        Edge.edge("the tank has L layers, 2 to 8: 9 are refused", """
            write H99999b100
            errorPosition() = 1
            load() = IllegalState
            about(7) = 4
            """);
    }

    private static void layersAreNumberedFromTheLowest() {
        Edge.edge("layers are numbered from 0, the lowest one: two", """
            load H29999b100t1020
            layer(0) = 10
            layer(1) = 20
            layer(2) = IndexOutOfBounds
            layer(-1) = IndexOutOfBounds
            """);
        Edge.edge("layers are numbered from 0, the lowest one: eight", """
            load H89999b100t1020304050607080
            layer(0) = 10
            layer(7) = 80
            layer(8) = IndexOutOfBounds
            layer(-1) = IndexOutOfBounds
            """);
        Edge.edge("layers that there were before a load with fewer do not exist", """
            load H89999b100t1020304050607080
            load H29999b100t1020
            layer(1) = 20
            layer(2) = IndexOutOfBounds
            about(9) = 15
            draw(2) = 30
            layers = 10 10
            """);
    }

    private static void temperaturesAreZeroToNinetyNine() {
        Edge.edge("a whole temperature from 0 to 99: both ends are taken", """
            load H29999b100t0099
            layers = 0 99
            about(9) = 49
            """);
        Edge.edge("heat never brings a layer beyond 99", """
            load H29900b300b300t8080
            set(3, 90)
            set(1, 1)
            set(4, 9)
            set(5, 0)
            set(2, 1)
            tick(1, 0) = 77
            tick(1, 0) = 89
            # 60 units: ten for each layer, the other 40 are lost; each layer of 99 loses 3
            tick(1, 0) = 96
            layers = 96 96
            account(0) = 90
            account(3) = 58
            """);
        Edge.edge("a layer at 0 is not made colder by a tick", """
            load H20000b010t0000
            tick(96, 0) = 0
            layers = 0 0
            account(3) = 0
            """);
    }

    private static void temperaturesAreAtFirstForty() {
        Edge.edge("temperatures, at first 40", """
            load H39999b100t102030
            load H39999b100
            layers = 40 40 40
            """);
    }

    private static void theMeanIsRoundedDown() {
        Edge.edge("the mean, rounded down: nothing is left over", """
            load H39999b100t404040
            about(9) = 40
            """);
        Edge.edge("the mean, rounded down: the most that can be left over", """
            load H39999b100t404141
            about(9) = 40
            load H89999b100t4041414141414141
            about(9) = 40
            load H29999b100t0001
            about(9) = 0
            """);
        Edge.edge("the mean: one more is the next number", """
            load H39999b100t414141
            about(9) = 41
            load H29999b100t9999
            about(9) = 99
            """);
    }

    private static void toDrawOnce() {
        Edge.edge("to draw once: the highest is delivered, each other moves up, the lowest gets 10 degrees", """
            load H30000b010t203050
            draw(1) = 50
            layers = 10 20 30
            account(1) = 10
            account(2) = 50
            account(5) = 1
            """);
        Edge.edge("the highest layer is the one of the greatest number, not the warmest one", """
            load H30000b010t000509
            draw(1) = 9
            layers = 10 0 5
            draw(1) = 5
            layers = 10 10 0
            draw(1) = 0
            account(2) = 14
            account(1) = 30
            """);
    }

    private static void toDrawAsOftenAsThereAreLayers() {
        Edge.edge("to draw L - 1 times leaves one layer, L times none, and then cold water comes", """
            load H29999b100t3040
            draw(1) = 40
            layers = 10 30
            draw(1) = 30
            layers = 10 10
            draw(1) = 10
            account(1) = 30
            account(2) = 80
            """);
        Edge.edge("the same with eight layers", """
            load H89999b100t2021222324252627
            draw(7) = 168
            layers = 10 10 10 10 10 10 10 20
            draw(2) = 30
            layers = 10 10 10 10 10 10 10 10
            account(5) = 9
            """);
    }
}
