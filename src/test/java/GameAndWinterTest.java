/** Promises 33 and 34: a game over one flame, winters by a seed. */
final class GameAndWinterTest {
    private static final Check CHECK = new Check();

    public static void main(String[] args) {
        games();
        gamesOfSleepers();
        noGames();
        wintersOfSleepers();
        wintersOfComplaints();
        wintersWithoutHours();
        wrongWinters();
        CHECK.end();
    }

    /** Whoever is flicked last has its way for 3, less 1 if need be; the first one can but save its own 1. */
    private static void games() {
        boolean[] all = {false, true};
        for (boolean firstWants : all) {
            for (boolean secondWants : all) {
                for (boolean lit : all) {
                    String wants = "wants house=0 and " + (firstWants ? 1 : 0) + " or house=1 and " + (secondWants ? 1 : 0);
                    TwinLamps x = Check.street("home 0 0;home 0 0;lamp 0 9;lamp 1 9;lamp 1 9;twins 0 1;" + wants + ";");
                    if (lit) {
                        x.flick(0);
                    }
                    int first = lit ? 1 : 0;
                    int second = secondWants ? 1 : 0;
                    String name = wants + (lit ? " lit " : " dark ");
                    CHECK.due(name + "game(0, 1, 0)", x.game(0, 1, 0), 1);
                    CHECK.due(name + "game(0, 1, 1)", x.game(0, 1, 1), 10 * first + second);
                    CHECK.due(name + "game(1, 0, 0)", x.game(1, 0, 0), 1);
                    CHECK.due(name + "game(1, 0, 1)", x.game(1, 0, 1), 10 * second + first);
                    CHECK.due(name + "stays lit or dark", x.count(4), lit ? 3 : 0);
                }
            }
        }
    }

    private static void gamesOfSleepers() {
        TwinLamps x = Check.street("home 12 13;tower 12 13;lamp 0 9;lamp 1 9;twins 0 1;wants house=1 and hour=2;");
        CHECK.due("game(0, 1, 1) at 0", x.game(0, 1, 1), 0);
        x.hours(2);
        CHECK.due("game(0, 1, 1) at 2: wanted by one that sleeps", x.game(0, 1, 1), 1);
        CHECK.due("game(1, 0, 1) at 2", x.game(1, 0, 1), 10);
    }

    private static void noGames() {
        TwinLamps x = Check.street("home 0 0;lamp 0 9;lamp 0 9;lamp 0 9;lamp 0 9;lamp 0 9;twins 0 1;twins 2 3;");
        CHECK.illegal("game(0, 2, 0), no twins", () -> x.game(0, 2, 0));
        CHECK.illegal("game(0, 0, 0)", () -> x.game(0, 0, 0));
        CHECK.illegal("game(4, 4, 0), alone", () -> x.game(4, 4, 0));
        CHECK.illegal("game(0, 4, 0)", () -> x.game(0, 4, 0));
        CHECK.noSuch("game(5, 0, 0)", () -> x.game(5, 0, 0));
        CHECK.noSuch("game(0, 5, 0)", () -> x.game(0, 5, 0));
        CHECK.noSuch("game(-1, 0, 0)", () -> x.game(-1, 0, 0));
        CHECK.noSuch("game(4, -1, 0)", () -> x.game(4, -1, 0));
        CHECK.noSuch("game(0, 1, 2)", () -> x.game(0, 1, 2));
        CHECK.noSuch("game(0, 2, 2), what ahead", () -> x.game(0, 2, 2));
        CHECK.noSuch("game(0, 1, -1)", () -> x.game(0, 1, -1));
        x.trim(1, 0);
        x.breaks(2);
        CHECK.illegal("game(0, 1, 1) without oil", () -> x.game(0, 1, 1));
        CHECK.illegal("game(1, 0, 1) without oil", () -> x.game(1, 0, 1));
        CHECK.illegal("game(3, 2, 0) broken", () -> x.game(3, 2, 0));
        CHECK.due("STATUS 1", x.count(15), 0);
    }

    /** Reckoned by hand from the seed: all sleep, so only what befalls the lamps counts. */
    private static void wintersOfSleepers() {
        TwinLamps x = Check.street("home 22 23;lamp 0 1;lamp 0 5;lamp 0 0;lamp 0 30;wants 0;");
        int[][] due = {{0, 10, 0, 0}, {0, 22, 1, 0}, {2, 10, 1, 0}, {3, 22, 1, 1}, {4, 22, 2, 0}, {5, 10, 2, 0},
            {5, 22, 0, 1}, {8, 22, 0, 2}, {9, 10, 3, 0}, {10, 22, 1, 1}, {11, 22, 1, 0}, {-7, 22, 0, 0}, {123456789, 22, 2, 0}};
        for (int[] row : due) {
            CHECK.due("winter(" + row[0] + ", " + row[1] + ", 0)", x.winter(row[0], row[1], 0), 0);
            CHECK.due("winter(" + row[0] + ", " + row[1] + ", 1)", x.winter(row[0], row[1], 1), row[2]);
            CHECK.due("winter(" + row[0] + ", " + row[1] + ", 2)", x.winter(row[0], row[1], 2), row[3]);
        }
        CHECK.due("hour", x.count(3), 0);
        CHECK.due("oil", x.count(6), 36);
        CHECK.due("acts", x.count(11), 0);
    }

    /** Light is wanted always, and there is oil: a broken one is complained of in each hour from its breaking on. */
    private static void wintersOfComplaints() {
        TwinLamps x = Check.street("home 0 0;" + "lamp 0 97;".repeat(4) + "wants 1;");
        int hours = 96;
        for (int seed = 1; seed <= 10; seed++) {
            int broken = 0;
            int complaints = 0;
            int drawn = seed;
            for (int i = 0; i < hours; i++) {
                drawn = drawn * 1103515245 + 12345;
                int lamp = (drawn >>> 16 & 32767) % 4;
                drawn = drawn * 1103515245 + 12345;
                if ((drawn >>> 16 & 32767) % 5 == 1) {
                    drawn = drawn * 1103515245 + 12345;
                    if ((drawn >>> 16 & 32767) % 10 == 0) {
                        broken |= 1 << lamp;
                    }
                }
                complaints += Integer.bitCount(broken);
            }
            CHECK.due("winter(" + seed + ", 96, 0)", x.winter(seed, hours, 0), complaints);
            CHECK.due("winter(" + seed + ", 96, 1)", x.winter(seed, hours, 1), 4 - Integer.bitCount(broken));
            CHECK.due("winter(" + seed + ", 96, 2)", x.winter(seed, hours, 2), Integer.bitCount(broken));
        }
    }

    private static void wintersWithoutHours() {
        TwinLamps x = Check.street("home 0 0;lamp 0 9;lamp 0 9;lamp 0 9;lamp 0 9;twins 0 1;");
        x.flick(0);
        x.flick(3);
        x.breaks(2);
        CHECK.due("winter(5, 0, 0)", x.winter(5, 0, 0), 0);
        CHECK.due("winter(5, 0, 1)", x.winter(5, 0, 1), 3);
        CHECK.due("winter(5, 0, 2)", x.winter(5, 0, 2), 1);
        TwinLamps none = Check.street("home 0 0;");
        for (int what = 0; what <= 2; what++) {
            CHECK.due("a winter without lamps", none.winter(5, 96, what), 0);
        }
    }

    private static void wrongWinters() {
        TwinLamps x = Check.street("home 0 0;lamp 0 9;");
        CHECK.noSuch("winter(5, 9, 3)", () -> x.winter(5, 9, 3));
        CHECK.noSuch("winter(5, 9, -1)", () -> x.winter(5, 9, -1));
        CHECK.noSuch("winter(5, 97, 3)", () -> x.winter(5, 97, 3));
        CHECK.illegal("winter(5, 97, 2)", () -> x.winter(5, 97, 2));
        CHECK.illegal("winter(5, -1, 0)", () -> x.winter(5, -1, 0));
    }
}
