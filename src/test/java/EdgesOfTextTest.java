/** The boundary cases of "Text" and of promises 2 to 5, sentence by sentence. */
public final class EdgesOfTextTest {
    private static final String LONGEST = "H89999b300b301b300b301b300t9999999999999999";

    public static void main(String[] args) {
        charactersAreZeroTo255();
        sixtyCharactersAreTheMost();
        theArgumentIsLookedAtFirst();
        clearTextTellsThePreviousLength();
        aTextBeginsWithH();
        theDigitOfL();
        theDraftsHaveTwoDigits();
        oneToFiveBoilers();
        thePowerHasTwoDigits();
        theDigitOfTheFlue();
        temperaturesOfEachLayer();
        noneIsLessThanTheOneBefore();
        thereAreNoBlanks();
        thereAreNoOtherCharacters();
        aroundTheDigits();
        theFirstWrongCharacterCounts();
        aDigitThatNoNumberBeginsWith();
        aTextThatEndsTooSoon();
        aTextOfSixtyCharacters();
        loadMakesEverythingAsAtFirst();
        loadForgetsAndEmpties();
        loadKeepsTheText();
        loadOfWhatIsNoText();
        Check.end("EdgesOfTextTest");
    }

    private static void error(String sentence, String text, String due) {
        Edge.edge(sentence + ": " + text, "write " + text + "\nerrorPosition() = " + due
                + (due.equals("NONE") ? "\nload()" : "\nload() = IllegalState") + "\nclearText() = " + text.length());
    }

    private static void charactersAreZeroTo255() {
        Edge.edge("c: character code, 0 to 255", """
            append(-1) = IllegalArgument
            append(256) = IllegalArgument
            append(-2147483648) = IllegalArgument
            append(2147483647) = IllegalArgument
            append(0) = 1
            append(255) = 2
            clearText() = 2
            """);
        // the same in its lowest eight or sixteen bits as H is
        Edge.edge("a number beyond 255 is no character, whatever its lowest bits are", """
            append(328) = IllegalArgument
            append(65608) = IllegalArgument
            append(-184) = IllegalArgument
            clearText() = 0
            """);
    }

    private static void sixtyCharactersAreTheMost() {
        Edge.edge("at most 60 characters: the last that is taken, and the first that is refused", """
            59 x append(72)
            append(72) = 60
            append(72) = IllegalState
            append(72) = IllegalState
            clearText() = 60
            append(72) = 1
            """);
    }

    private static void theArgumentIsLookedAtFirst() {
        Edge.edge("IllegalArgumentException is named first, also if the text is full", """
            60 x append(72)
            append(256) = IllegalArgument
            append(-1) = IllegalArgument
            append(255) = IllegalState
            append(0) = IllegalState
            clearText() = 60
            """);
    }

    private static void clearTextTellsThePreviousLength() {
        Edge.edge("returns the previous length of the text: of an empty one", """
            clearText() = 0
            clearText() = 0
            """);
        Edge.edge("returns the previous length of the text: of one character", """
            append(72) = 1
            clearText() = 1
            clearText() = 0
            errorPosition() = 0
            """);
    }

    private static void aTextBeginsWithH() {
        error("a text is the letter H", "H29999b100", "NONE");
        error("a text is the letter H, not the one before", "G29999b100", "0");
        error("a text is the letter H, not the one behind", "I29999b100", "0");
        error("a text is the letter H, no small one", "h29999b100", "0");
        error("a text is the letter H, and not without it", "29999b100", "0");
    }

    private static void theDigitOfL() {
        error("the digit of L (2 to 8)", "H19999b100", "1");
        error("the digit of L (2 to 8)", "H29999b100", "NONE");
        error("the digit of L (2 to 8)", "H89999b100", "NONE");
        error("the digit of L (2 to 8)", "H99999b100", "1");
        error("the digit of L (2 to 8)", "H09999b100", "1");
    }

    private static void theDraftsHaveTwoDigits() {
        error("two digits for the draft (00 to 99)", "H20000b100", "NONE");
        error("two digits for the draft (00 to 99)", "H29999b100", "NONE");
        // the characters around the digits
        error("no digit in the draft of flue 0", "H2/999b100", "2");
        error("no digit in the draft of flue 0", "H29:99b100", "3");
        error("no digit in the draft of flue 1", "H299/9b100", "4");
        error("no digit in the draft of flue 1", "H2999:b100", "5");
        error("a third digit in a draft", "H299999b100", "6");
        Edge.edge("two digits for the draft of flue 0 and two for that of flue 1", """
            load H20199b100
            flue(0, 0) = 1
            flue(1, 0) = 99
            load H29910b100
            flue(0, 0) = 99
            flue(1, 0) = 10
            """);
    }

    private static void oneToFiveBoilers() {
        error("1 to 5 boilers: none", "H29999", "6");
        error("1 to 5 boilers: none, and temperatures", "H29999t4040", "6");
        error("1 to 5 boilers: one", "H29999b100", "NONE");
        error("1 to 5 boilers: five", "H29999b100b100b100b100b100", "NONE");
        error("1 to 5 boilers: six", "H29999b100b100b100b100b100b100", "26");
        error("each of them the letter b, no great one", "H29999B100", "6");
        error("each of them the letter b, and not without it", "H29999100", "6");
        error("each of them the letter b, and not without it", "H29999b100110", "10");
        error("each of them the letter b", "H29999b100a100", "10");
    }

    private static void thePowerHasTwoDigits() {
        error("two digits for its power (01 to 30)", "H29999b000", "8");
        error("two digits for its power (01 to 30)", "H29999b010", "NONE");
        error("two digits for its power (01 to 30)", "H29999b090", "NONE");
        error("two digits for its power (01 to 30)", "H29999b290", "NONE");
        error("two digits for its power (01 to 30)", "H29999b300", "NONE");
        error("two digits for its power (01 to 30)", "H29999b310", "8");
        error("two digits for its power (01 to 30)", "H29999b400", "7");
        error("the power of the fifth boiler", "H29999b100b100b100b100b000", "24");
        error("the power of the fifth boiler", "H29999b100b100b100b100b400", "23");
    }

    private static void theDigitOfTheFlue() {
        error("the digit of its flue (0 or 1)", "H29999b100", "NONE");
        error("the digit of its flue (0 or 1)", "H29999b101", "NONE");
        error("the digit of its flue (0 or 1)", "H29999b102", "9");
        error("the digit of its flue (0 or 1)", "H29999b10/", "9");
    }

    private static void temperaturesOfEachLayer() {
        error("two digits for the temperature of each layer (00 to 99)", "H29999b100t0000", "NONE");
        error("two digits for the temperature of each layer (00 to 99)", "H29999b100t9999", "NONE");
        error("two digits for the temperature of each layer: one layer too few", "H39999b100t4050", "15");
        error("two digits for the temperature of each layer: one layer too many", "H29999b100t405060", "15");
        error("two digits for the temperature of each layer: eight", "H89999b100t0001020304050607", "NONE");
        error("two digits for the temperature of each layer: nine", "H89999b100t000102030405060708", "27");
        error("then, perhaps, the letter t, no great one", "H29999b100T4040", "10");
        error("then, perhaps, the letter t, once", "H29999b100t4040t4040", "15");
        error("no boiler behind the temperatures", "H29999b100t4040b100", "15");
        Edge.edge("without t they are 40, also when the text before had others", """
            load H29999b100t0099
            layers = 0 99
            load H29999b100
            layers = 40 40
            """);
        Edge.edge("the lowest one first", """
            load H39999b100t002199
            layers = 0 21 99
            """);
    }

    private static void noneIsLessThanTheOneBefore() {
        error("none less than the one before: the same", "H29999b100t4545", "NONE");
        error("none less than the one before: one more", "H29999b100t4546", "NONE");
        error("none less than the one before: one less", "H29999b100t4544", "14");
        error("none less than the one before: one less", "H29999b100t4342", "14");
        error("none less than the one before: one less", "H29999b100t9897", "14");
        error("none less than the one before: one less", "H29999b100t0100", "14");
        error("none less than the one before: one less in the tens", "H29999b100t4539", "13");
        error("none less than the one before: more in the tens, less in the ones", "H29999b100t4550", "NONE");
        error("none less than the one before: 99 behind 99", "H29999b100t9999", "NONE");
        error("none less than the one before: 98 behind 99", "H29999b100t9998", "14");
        error("none less than the one before: the one just before, not the first one", "H39999b100t105040", "15");
        error("none less than the one before: the last layer of eight", "H89999b100t1010101010101010", "NONE");
        error("none less than the one before: the last layer of eight", "H89999b100t1010101010101009", "25");
    }

    private static void thereAreNoBlanks() {
        String text = "H29999b100t4040";
        for (int k = 0; k <= text.length(); k++) {
            BoilerCascade x = new BoilerCascade();
            Check.write(x, text.substring(0, k) + " " + text.substring(k));
            Check.due("there are no blanks: one at " + k, x.errorPosition(), k);
        }
    }

    private static void thereAreNoOtherCharacters() {
        String text = "H29999b100t4040";
        for (int k = 0; k <= text.length(); k++) {
            for (int c : new int[] {0, 10, 127, 128, 255}) {
                BoilerCascade x = new BoilerCascade();
                Check.write(x, text.substring(0, k) + (char) c + text.substring(k));
                Check.due("the first character not allowed: " + c + " at " + k, x.errorPosition(), k);
                Check.badState("load() with " + c + " at " + k, () -> x.load());
            }
        }
    }

    /** The characters around the digits, as the second sign of each number behind each first digit. */
    private static void aroundTheDigits() {
        String text = "H29999b100t4040";
        for (int first : new int[] {2, 4, 7, 11, 13}) {
            for (char around : new char[] {'/', ':'}) {
                error("no digit", text.substring(0, first) + around + text.substring(first + 1), "" + first);
                for (char digit = '0'; digit <= '9'; digit++) {
                    BoilerCascade x = new BoilerCascade();
                    Check.write(x, text.substring(0, first) + digit);
                    boolean isAllowed = x.errorPosition() == first + 1;
                    x.append(around);
                    Check.due("no digit behind " + digit + " at " + first + ": " + around, x.errorPosition(),
                            isAllowed ? first + 1 : first);
                }
            }
        }
        error("no digit of L", "H/9999b100", "1");
        error("no digit of L", "H:9999b100", "1");
        error("no digit of a flue", "H29999b10/", "9");
        error("no digit of a flue", "H29999b10:", "9");
    }

    private static void theFirstWrongCharacterCounts() {
        error("the index of the first character not allowed, of two", "G19999b100", "0");
        error("the index of the first character not allowed, of two", "H19999b310", "1");
        error("the index of the first character not allowed, of two", "H29999b310b000", "8");
        error("the index of the first character not allowed, of two", "H29999b312t9998", "8");
        error("a wrong character counts also if the text ends behind it", "H29999b31", "8");
    }

    private static void aDigitThatNoNumberBeginsWith() {
        error("no number that is allowed begins with 4", "H29999b4", "7");
        error("30 begins with 3", "H29999b3", "8");
        error("01 begins with 0", "H29999b0", "8");
        error("no number that is allowed is 00", "H29999b00", "8");
        error("no number that is allowed is 31", "H29999b31", "8");
        error("no number that is allowed begins with 3, behind 45", "H29999b100t453", "13");
        error("45 begins with 4, behind 45", "H29999b100t454", "14");
        error("no number that is allowed is 44, behind 45", "H29999b100t4544", "14");
        error("no number that is allowed begins with 8, behind 99", "H29999b100t998", "13");
        error("09 begins with 0, behind 09", "H29999b100t090", "14");
        error("no number that is allowed is 08, behind 09", "H29999b100t0908", "14");
    }

    /** Each text that is the beginning of a whole one. */
    private static void aTextThatEndsTooSoon() {
        String text = "H39907b300b011b150b290b301t405099";
        for (int k = 0; k <= text.length(); k++) {
            boolean isWhole = k == text.length() || k >= 10 && k <= 26 && k % 4 == 2;
            BoilerCascade x = new BoilerCascade();
            Check.write(x, text.substring(0, k));
            Check.due("if the text ends too soon: the first " + k, x.errorPosition(),
                    isWhole ? BoilerCascade.NONE : k);
            if (!isWhole) {
                Check.badState("load() of the first " + k, () -> x.load());
            }
        }
        error("the longest text", LONGEST, "NONE");
        error("one more behind the longest text", LONGEST + "0", "43");
        error("one less than the longest text", LONGEST.substring(0, 42), "42");
    }

    private static void aTextOfSixtyCharacters() {
        error("a text of 60 characters", LONGEST + "00000000000000000", "43");
        Edge.edge("a full text that is wrong in its first character", """
            60 x append(98)
            errorPosition() = 0
            load() = IllegalState
            """);
    }

    private static void loadMakesEverythingAsAtFirst() {
        Edge.edge("makes everything as at first: settings, clock, reason, kills and accounts", """
            write H20000b010t9090
            load() = 1
            set(0, 41)
            set(1, 4)
            set(2, 4)
            set(3, 60)
            set(4, 1)
            set(5, 0)
            tick(1, 0)
            set(4, 9)
            set(5, 1)
            tick(2, 0)
            draw(1)
            tick(1, 0)
            about(14) = 1
            about(13) = 3
            about(10) = 1
            load() = 1
            about(0) = 60
            about(1) = 3
            about(2) = 2
            about(3) = 70
            about(4) = 2
            about(5) = 2
            about(8) = 0
            about(9) = 90
            about(10) = 0
            about(11) = 0
            about(12) = 0
            about(13) = 0
            about(14) = 0
            about(15) = 0
            account(0) = 0
            account(1) = 0
            account(2) = 0
            account(3) = 0
            account(4) = 0
            account(5) = 0
            """);
        Edge.edge("makes everything as at first: heat given and lost, fuel, a kill that failed", """
            write H29999b300t8080
            load() = 1
            set(5, 0)
            set(3, 90)
            set(2, 1)
            tick(13, 2)
            account(0) = 360
            account(4) = 360
            about(15) = 1
            load() = 1
            account(0) = 0
            account(2) = 0
            account(3) = 0
            account(4) = 0
            about(15) = 0
            """);
        Edge.edge("makes everything as at first: a boiler that purges", """
            write H29999b300t2020
            load() = 1
            set(2, 5)
            tick(1, 0)
            boiler(0, 3) = 4
            load() = 1
            boiler(0, 2) = 0
            boiler(0, 3) = 0
            """);
        Edge.edge("makes everything as at first: boilers and flues", """
            write H29999b010b021t2020
            load() = 2
            set(2, 5)
            tick(8, 0)
            lock(1)
            setFlue(1, false)
            setDraft(0, 7)
            load() = 2
            boilers 2 = 0 0
            boilers 3 = 0 0
            boilers 4 = 0 0
            boilers 5 = 0 0
            boilers 6 = 0 0
            flue(1, 2) = 1
            flue(0, 0) = 99
            layers = 20 20
            """);
        Edge.edge("returns the number of boilers: the least and the most", """
            write H29999b010
            load() = 1
            write H29999b010b010b010b010b010
            load() = 5
            """);
    }

    private static void loadForgetsAndEmpties() {
        Edge.edge("load forgets all remembered states", """
            write H29999b010
            14 x draw(1)
            load() = 1
            undo() = IllegalState
            draw(1)
            undo() = 0
            undo() = IllegalState
            """);
        Edge.edge("load empties both save slots", """
            write H29999b010
            save(0) = 0
            save(1) = 0
            load() = 1
            restore(0) = IllegalState
            restore(1) = IllegalState
            save(1) = 0
            restore(0) = IllegalState
            restore(1) = 0
            """);
    }

    private static void loadKeepsTheText() {
        Edge.edge("load keeps the text", """
            write H29999b010b021
            load() = 2
            errorPosition() = NONE
            load() = 2
            append(116) = 15
            errorPosition() = 15
            load() = IllegalState
            about(6) = 2
            clearText() = 15
            """);
        Edge.edge("clearText changes nothing but the text", """
            load H29999b010b021t1020
            tick(3, 1)
            save(0) = 3
            clearText() = 19
            about(6) = 2
            about(8) = 3
            restore(0) = 3
            """);
    }

    private static void loadOfWhatIsNoText() {
        Edge.edge("load throws if the text is not as described: it is empty", """
            draw(1) = 40
            save(1) = 0
            load() = IllegalState
            account(5) = 1
            undo() = 0
            restore(1) = 0
            """);
        Edge.edge("load throws if the text is not as described: all but its last character is right", """
            load H39999b100b201t304050
            tick(3, 1)
            save(0) = 3
            draw(1)
            write H89999b300b300b300b300t0101010101010100
            errorPosition() = 38
            load() = IllegalState
            about(6) = 2
            about(7) = 3
            undo() = 1
            undo() = 0
            undo() = IllegalState
            """);
    }
}
