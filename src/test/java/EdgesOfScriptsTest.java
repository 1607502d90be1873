/** The boundary cases of promises 27 and 28, sentence by sentence. */
public final class EdgesOfScriptsTest {
    private static final String TWO = "load H45050b100b201\n";

    public static void main(String[] args) {
        oneToThreeCommands();
        atMostFiveDigitsEach();
        theFirstCommandIsTheHighestGroup();
        zerosBeforeIt();
        theFirstThatFails();
        letTicksPass();
        draw();
        setASetting();
        moveAFlue();
        lock();
        unlock();
        theMeanIsAtLeast();
        theStateOfABoiler();
        justSoManyKills();
        anyOtherGroup();
        anotherDigitWhereAZeroIsWritten();
        aCopyOfTheState();
        roundsAreOneTo96();
        anySeed();
        aFlueIsMoved();
        theDrawsOfARound();
        fuelAndMean();
        Check.end("EdgesOfScriptsTest");
    }

    /** A script of one command each, on two boilers, 0 at flue 0 and 1 at flue 1, and a mean of 40. */
    private static void each(String sentence, String due, int... groups) {
        for (int group : groups) {
            Edge.edge(sentence + ": " + group, TWO + "runScript(1, " + group + ") = " + due);
        }
    }

    private static void oneToThreeCommands() {
        Edge.edge("n: number of commands, 1 to 3", TWO + """
            runScript(0, 0) = IllegalArgument
            runScript(-1, 10001) = IllegalArgument
            runScript(4, 10001) = IllegalArgument
            runScript(4, 10001_10001_10001) = IllegalArgument
            runScript(-2147483648, 0) = IllegalArgument
            runScript(2147483647, 0) = IllegalArgument
            runScript(1, 10001) = NONE
            runScript(3, 10001_10001_10001) = NONE
            """);
    }

    private static void atMostFiveDigitsEach() {
        Edge.edge("a number of at most 5 * n digits (0 or more): negative", TWO + """
            runScript(1, -1) = IllegalArgument
            runScript(3, -10001) = IllegalArgument
            runScript(3, -9223372036854775808) = IllegalArgument
            runScript(1, 0) = 0
            runScript(3, 0) = 0
            """);
        Edge.edge("a number of at most 5 * n digits: the greatest, and the first that is refused", TWO + """
            runScript(1, 99999) = 0
            runScript(1, 100000) = IllegalArgument
            runScript(2, 9999999999) = 0
            runScript(2, 10000000000) = IllegalArgument
            runScript(3, 999999999999999) = 0
            runScript(3, 1000000000000000) = IllegalArgument
            runScript(3, 9223372036854775807) = IllegalArgument
            """);
        Edge.edge("more than 5 * n digits, whatever the lowest digits or bits are", TWO + """
            runScript(1, 110001) = IllegalArgument
            runScript(1, 4294977297) = IllegalArgument
            runScript(2, 1000010001_10001) = IllegalArgument
            """);
    }

    private static void theFirstCommandIsTheHighestGroup() {
        Edge.edge("the first command is the highest group of the number", TWO + """
            runScript(2, 50000_60000) = NONE
            runScript(2, 60000_50000) = 0
            runScript(3, 40000_10001_80000) = NONE
            runScript(3, 10001_40000_80000) = NONE
            runScript(3, 10001_80001_40000) = NONE
            runScript(3, 80001_10001_40000) = 0
            """);
    }

    private static void zerosBeforeIt() {
        Edge.edge("(with zeros before it, if it has fewer digits): the first group is 00000 then", TWO + """
            runScript(1, 1) = 0
            runScript(1, 9000) = 0
            runScript(2, 10001) = 0
            runScript(3, 10001_10001) = 0
            """);
    }

    private static void theFirstThatFails() {
        Edge.edge("returns the index, from 0, of the first command that fails; NONE if all succeed", TWO + """
            runScript(3, 0_10001_10001) = 0
            runScript(3, 10001_00000_10001) = 1
            runScript(3, 10001_10001_00000) = 2
            runScript(3, 10001_10001_10001) = NONE
            runScript(3, 10001_00000_00000) = 1
            runScript(1, 10001) = NONE
            """);
    }

    private static void letTicksPass() {
        each("1 d 0 x y: lets xy ticks pass (01 to 96)", "NONE", 10001, 10096, 10010, 10009);
        each("1 d 0 x y: lets xy ticks pass (01 to 96)", "0", 10000, 10097, 10099);
        each("1 d 0 x y: with d draws ahead of each (0 to 5)", "NONE", 10001, 15001, 15096);
        each("1 d 0 x y: with d draws ahead of each (0 to 5)", "0", 16001, 19001, 16096);
        each("1 d 0 x y: another digit where a 0 is written", "0", 10101, 10901, 15196);
        Edge.edge("1 d 0 x y: it does nothing else", TWO + """
            runScript(2, 10001_70039) = NONE
            runScript(2, 10001_70040) = 1
            """);
        Edge.edge("1 d 0 x y: it lets as many ticks pass, with as many draws", TWO + """
            runScript(2, 14001_70010) = NONE
            runScript(2, 14001_70011) = 1
            runScript(3, 10001_80001_81000) = NONE
            runScript(3, 10002_80002_81001) = NONE
            """);
    }

    private static void draw() {
        each("2 0 0 x y: draws xy times (01 to 20)", "NONE", 20001, 20009, 20010, 20020);
        each("2 0 0 x y: draws xy times (01 to 20)", "0", 20000, 20021, 20099);
        each("2 0 0 x y: another digit where a 0 is written", "0", 21001, 29020, 20101, 20920, 21101);
        Edge.edge("2 0 0 x y: it does nothing else", TWO + """
            runScript(3, 20001_10001_80001) = NONE
            runScript(3, 20020_80000_90000) = NONE
            """);
        Edge.edge("2 0 0 x y: it draws as often", TWO + """
            runScript(2, 20003_70017) = NONE
            runScript(2, 20003_70018) = 1
            runScript(2, 20004_70010) = NONE
            runScript(2, 20004_70011) = 1
            """);
    }

    private static void setASetting() {
        int[] least = {40, 1, 1, 60, 1, 0};
        int[] most = {80, 9, 5, 90, 9, 23};
        for (int w = 0; w < least.length; w++) {
            int group = 30_000 + 1000 * w;
            each("3 w 0 x y: sets the setting w to xy", "NONE", group + least[w], group + most[w]);
            each("3 w 0 x y: fails above its range", "0", group + most[w] + 1, group + 99);
            if (least[w] > 0) {
                each("3 w 0 x y: fails below its range", "0", group + least[w] - 1, group);
            }
            each("3 w 0 x y: another digit where a 0 is written", "0", group + 100 + least[w], group + 900 + most[w]);
        }
        each("3 w 0 x y: there is no such setting", "0", 36001, 36060, 39009, 37005);
        Edge.edge("3 w 0 x y: it does nothing else", """
            load H45050b100b101
            tick(1, 0)
            boilers 2 = 1 0
            runScript(3, 30040_80001_81000) = NONE
            runScript(3, 31001_80001_81000) = NONE
            tick(1, 0)
            boilers 2 = 2 1
            runScript(3, 31009_80002_81001) = NONE
            runScript(3, 32005_80002_81001) = NONE
            """);
        Edge.edge("3 w 0 x y: it sets this one", TWO + """
            runScript(3, 32001_10001_80002) = NONE
            runScript(3, 32005_10004_80001) = NONE
            runScript(3, 30044_10001_80001) = NONE
            runScript(3, 30043_10001_80000) = NONE
            """);
    }

    private static void moveAFlue() {
        each("4 f 0 0 b: opens flue f (b is 1) or shuts it (b is 0)", "NONE", 40000, 40001, 41000, 41001);
        each("4 f 0 0 b: b is neither", "0", 40002, 40009, 41002);
        each("4 f 0 0 b: there is no such flue", "0", 42000, 42001, 49001);
        each("4 f 0 0 b: another digit where a 0 is written", "0", 40010, 40011, 40100, 40101, 41110, 41901);
        Edge.edge("4 f 0 0 b: it shuts and opens this one", TWO + """
            runScript(3, 40000_10001_81001) = NONE
            runScript(3, 10001_41000_80001) = NONE
            runScript(3, 10001_40000_80000) = NONE
            setFlue(0, false)
            runScript(3, 40001_10001_80001) = NONE
            runScript(3, 41001_10001_80001) = 2
            """);
    }

    private static void lock() {
        each("5 i 0 0 0: locks boiler i", "NONE", 50000, 51000);
        each("5 i 0 0 0: it does not exist", "0", 52000, 54000, 55000, 59000);
        each("5 i 0 0 0: another digit where a 0 is written", "0", 50001, 50010, 50100, 51001, 51999);
        Edge.edge("5 i 0 0 0: it stays locked", TWO + """
            runScript(3, 50000_10001_80004) = NONE
            runScript(3, 50000_10001_81001) = NONE
            runScript(3, 50000_50000_80000) = 1
            """);
        Edge.edge("5 i 0 0 0: fails if it is locked", TWO + """
            runScript(2, 50000_50000) = 1
            runScript(2, 50000_51000) = NONE
            runScript(2, 50000_80004) = NONE
            lock(1)
            runScript(1, 51000) = 0
            """);
        Edge.edge("5 i 0 0 0: the last boiler of five", """
            load H29999b010b010b010b010b010
            runScript(2, 54000_84004) = NONE
            runScript(1, 55000) = 0
            """);
    }

    private static void unlock() {
        each("6 i 0 0 0: fails if it is not locked", "0", 60000, 61000);
        each("6 i 0 0 0: it does not exist", "0", 62000, 64000, 65000, 69000);
        Edge.edge("6 i 0 0 0: unlocks boiler i", TWO + """
            lock(1)
            runScript(1, 61000) = NONE
            runScript(2, 61000_81000) = NONE
            runScript(2, 61000_61000) = 1
            runScript(1, 60000) = 0
            runScript(1, 61001) = 0
            runScript(1, 61010) = 0
            runScript(1, 61100) = 0
            boiler(1, 2) = 4
            """);
    }

    private static void theMeanIsAtLeast() {
        each("7 0 0 x y: succeeds if the mean is at least xy", "NONE", 70000, 70039, 70040);
        each("7 0 0 x y: fails if the mean is less", "0", 70041, 70099);
        each("7 0 0 x y: another digit where a 0 is written", "0", 71000, 71040, 79000, 70100, 70140, 70900);
        Edge.edge("7 0 0 x y: the least mean and the greatest one", """
            load H20000b010t0000
            runScript(1, 70000) = NONE
            runScript(1, 70001) = 0
            load H20000b010t9999
            runScript(1, 70099) = NONE
            runScript(1, 70100) = 0
            """);
    }

    private static void theStateOfABoiler() {
        each("8 i 0 0 s: succeeds if the state of boiler i is s", "NONE", 80000, 81000);
        each("8 i 0 0 s: fails if it is another one", "0", 80001, 80002, 80003, 80004, 80005, 80009, 81001);
        each("8 i 0 0 s: it does not exist", "0", 82000, 84000, 85000, 89000);
        each("8 i 0 0 s: another digit where a 0 is written", "0", 80010, 80100, 80900, 81110);
        Edge.edge("8 i 0 0 s: each of the states", """
            load H29999b010b020b030b041t5050
            set(5, 23)
            set(0, 80)
            set(2, 1)
            lock(3)
            lock(0)
            tick(3, 0)
            set(0, 40)
            tick(1, 0)
            set(0, 80)
            setDraft(0, 4)
            set(2, 5)
            unlock(0)
            tick(1, 0)
            boilers 2 = 1 3 2 4
            runScript(3, 80001_81003_82002) = NONE
            runScript(1, 83004) = NONE
            runScript(1, 80002) = 0
            runScript(1, 81002) = 0
            runScript(1, 82003) = 0
            runScript(1, 83000) = 0
            runScript(1, 80011) = 0
            runScript(1, 83104) = 0
            """);
    }

    private static void justSoManyKills() {
        each("9 0 0 0 k: succeeds if just k kills are done", "NONE", 90000);
        each("9 0 0 0 k: fails if it is another number", "0", 90001, 90009);
        each("9 0 0 0 k: another digit where a 0 is written", "0", 91000, 99000, 90010, 90100, 90900);
        Edge.edge("9 0 0 0 k: one kill is done, neither less nor more", """
            load H20000b010t9090
            set(4, 1)
            set(5, 0)
            tick(1, 0)
            runScript(1, 90000) = 0
            runScript(1, 90001) = NONE
            runScript(1, 90002) = 0
            runScript(1, 90011) = 0
            runScript(1, 90101) = 0
            """);
        Edge.edge("9 0 0 0 k: one that is done in the script counts", """
            load H20000b010t9090
            set(4, 1)
            set(5, 0)
            runScript(2, 10001_90001) = NONE
            runScript(2, 10001_90000) = 1
            runScript(2, 90000_10001) = NONE
            about(14) = 0
            """);
        Edge.edge("9 0 0 0 k: one that failed is not done", """
            load H20000b010t4040
            set(5, 0)
            tick(12, 0)
            about(15) = 1
            runScript(1, 90000) = NONE
            runScript(1, 90001) = 0
            """);
        StringBuilder kills = new StringBuilder("load H29999b300b301t9090\nset(4, 1)\nset(3, 60)\nset(0, 80)\n");
        for (int k = 0; k < 10; k++) {
            kills.append("set(5, ").append(2 * k).append(")\ntick(2, 0)\n");
            kills.append("runScript(1, ").append(90_000 + k).append(") = 0\n");
            if (k < 9) {
                kills.append("runScript(1, ").append(90_001 + k).append(") = NONE\n");
            }
        }
        Edge.edge("9 0 0 0 k: 9 is the greatest digit, 10 kills are no k", kills + """
            about(14) = 10
            runScript(1, 90000) = 0
            runScript(1, 90001) = 0
            runScript(1, 90010) = 0
            """);
    }

    private static void anyOtherGroup() {
        each("so does any other group: its first digit is 0", "0", 0, 1, 99, 100, 1001, 1096, 9999);
        each("so does any other group: all its digits are 9", "0", 99999);
    }

    private static void anotherDigitWhereAZeroIsWritten() {
        String[] good = {"15096", "20020", "30060", "41001", "51000", "70040", "81000", "90000"};
        // the places where the document writes a 0, by the first digit
        String[] zeros = {"", "2", "12", "2", "23", "234", "234", "12", "23", "123"};
        for (String group : good) {
            for (char place : zeros[group.charAt(0) - '0'].toCharArray()) {
                for (char digit = '1'; digit <= '9'; digit++) {
                    char[] other = group.toCharArray();
                    other[place - '0'] = digit;
                    BoilerCascade x = Check.loaded("H45050b100b201");
                    long right = Long.parseLong(group);
                    Check.due("runScript(1, " + right + ")", x.runScript(1, right), BoilerCascade.NONE);
                    long wrong = Long.parseLong(new String(other));
                    Check.due("runScript(1, " + wrong + ")", x.runScript(1, wrong), 0);
                }
            }
        }
    }

    private static void aCopyOfTheState() {
        Edge.edge("runs a script on a copy of the state, also when a command fails", TWO + """
            tick(3, 1)
            runScript(3, 15096_20020_99999) = 2
            runScript(3, 30080_31009_32005) = NONE
            runScript(3, 33090_34009_35023) = NONE
            runScript(3, 40000_41000_50000) = NONE
            about(8) = 3
            about(0) = 60
            flue(0, 2) = 1
            undo() = 0
            """);
        Edge.edge("each script begins with the state as it is", TWO + """
            runScript(1, 50000) = NONE
            runScript(1, 50000) = NONE
            runScript(1, 60000) = 0
            runScript(1, 10096) = NONE
            runScript(1, 70041) = 0
            """);
    }

    private static void roundsAreOneTo96() {
        Edge.edge("simulate: m, 1 to 96", """
            load H20000b010t1010
            simulate(0, 0) = IllegalArgument
            simulate(0, -1) = IllegalArgument
            simulate(0, 97) = IllegalArgument
            simulate(0, -2147483648) = IllegalArgument
            simulate(0, 2147483647) = IllegalArgument
            simulate(0, 1) = 10
            simulate(0, 96) = 10
            """);
    }

    /** What simulate must answer, with the methods that have these effects. */
    private static long byHand(BoilerCascade x, long seed, int m) {
        long fuel = x.account(4);
        long v = seed;
        for (int k = 0; k < m; k++) {
            v = v * 6364136223846793005L + 1442695040888963407L;
            int r = (int) (v >>> 33);
            if (r % 16 == 0) {
                x.setFlue(r / 16 % 2, x.flue(r / 16 % 2, 2) == 0);
            }
            x.tick(1, r / 64 % 4);
        }
        return 1000 * (x.account(4) - fuel) + x.about(9);
    }

    private static void anySeed() {
        long[] seeds = {0, 1, -1, Integer.MAX_VALUE, Integer.MIN_VALUE, 1L << 32, 1L << 33, Long.MAX_VALUE,
            Long.MAX_VALUE - 1, Long.MIN_VALUE, Long.MIN_VALUE + 1};
        for (long seed : seeds) {
            for (int m : new int[] {1, 2, 95, 96}) {
                BoilerCascade x = Check.loaded("H49050b100b201b300b150");
                BoilerCascade y = Check.loaded("H49050b100b201b300b150");
                Check.due("seed: any long, with long overflow: simulate(" + seed + ", " + m + ")", x.simulate(seed, m),
                        byHand(y, seed, m));
            }
        }
    }

    private static void aFlueIsMoved() {
        // the first r of the four seeds is 0, 15, 16 and 80; the second r of the first seed is 167951807
        String tank = """
            load H29999b300t1010
            set(2, 1)
            """;
        Edge.edge("if r % 16 is 0, flue r / 16 % 2 is shut if it is open: r is 0", tank + """
            tick(1, 0)
            simulate(-7379792620528906219, 1) = 10
            flue(0, 2) = 1
            """);
        Edge.edge("if r % 16 is 0, flue r / 16 % 2 is opened if it is shut: r is 0", tank + """
            setFlue(0, false)
            simulate(-7379792620528906219, 2) = 30025
            setFlue(0, true)
            simulate(-7379792620528906219, 2) = 10
            """);
        Edge.edge("if r % 16 is not 0, no flue is moved: r is 15", tank + """
            tick(1, 0)
            simulate(-8638333942244356075, 1) = 30025
            """);
        Edge.edge("flue r / 16 % 2 is the other one: r is 16", tank + """
            tick(1, 0)
            simulate(-1343539067541565419, 1) = 30025
            load H29999b301t1010
            set(2, 1)
            tick(1, 0)
            simulate(-1343539067541565419, 1) = 10
            simulate(-7379792620528906219, 1) = 30025
            """);
        Edge.edge("flue r / 16 % 2 is flue 1 again: r is 80", """
            load H29999b301t1010
            set(2, 1)
            tick(1, 0)
            simulate(4354731070698246165, 1) = 10
            """);
    }

    private static void theDrawsOfARound() {
        Edge.edge("r / 64 % 4 draws ahead of the tick: 0 to 3, with r of 15, 80, 167951807, 207 and 271", """
            load H50000b010t5050505050
            simulate(-8638333942244356075, 1) = 49
            simulate(4354731070698246165, 1) = 41
            simulate(0, 1) = 33
            simulate(8456476472475078677, 1) = 25
            simulate(-4291997462994661355, 1) = 49
            """);
        Edge.edge("r = (int) (x >>> 33): the greatest r, 2147483647, is not below 0", """
            load H50000b010t5050505050
            simulate(3772156578477854741, 1) = 25
            """);
        Edge.edge("r = (int) (x >>> 33): the greatest r that moves a flue, 2147483632, moves flue 1", """
            load H29999b301t1010
            set(2, 1)
            tick(1, 0)
            simulate(5030697900193304597, 1) = 10
            load H29999b300t1010
            set(2, 1)
            tick(1, 0)
            simulate(5030697900193304597, 1) = 30025
            """);
    }

    private static void fuelAndMean() {
        Edge.edge("1000 times the fuel in these rounds, and not in those before, plus the mean at the end", """
            load H20000b010t0000
            simulate(-8638333942244356075, 1) = 0
            load H20000b010t9999
            simulate(-8638333942244356075, 1) = 96
            load H29999b300t1010
            set(2, 1)
            tick(5, 0)
            account(4) = 120
            simulate(-8638333942244356075, 1) = 30078
            account(4) = 120
            """);
    }
}
