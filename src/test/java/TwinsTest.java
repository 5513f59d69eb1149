/** Promises 23 to 28: who is joined, strife, better twins, treaties, funds, signals. */
final class TwinsTest {
    private static final Check CHECK = new Check();

    public static void main(String[] args) {
        joined();
        strife();
        betterTwins();
        betterTwinsOfLikeCost();
        brokenTwins();
        treaties();
        treatiesOfLikeWorth();
        funds();
        signals();
        CHECK.end();
    }

    private static void joined() {
        TwinLamps x = Check.street("home 0 0;".repeat(8)
                + "lamp 0 1;lamp 1 1;lamp 1 1;lamp 2 1;lamp 2 1;lamp 3 1;lamp 3 1;lamp 4 1;lamp 4 1;lamp 5 1;lamp 5 1;lamp 6 1;"
                + "twins 0 1;twins 2 3;twins 4 5;twins 6 7;twins 8 9;twins 10 11;");
        for (int house = 0; house < 7; house++) {
            CHECK.due("joined(0, " + house + ")", x.joined(0, house), house);
            CHECK.due("joined(" + house + ", 6)", x.joined(house, 6), 6 - house);
            CHECK.due("joined(" + house + ", 7)", x.joined(house, 7), -1);
            CHECK.due("joined(7, " + house + ")", x.joined(7, house), -1);
        }
        CHECK.due("joined(7, 7)", x.joined(7, 7), 0);
        x.give(7, 6);
        CHECK.due("joined(0, 6), a way shorter", x.joined(0, 6), 4);
        CHECK.due("joined(0, 4), from behind", x.joined(0, 4), 6);
        x.breaks(0);
        CHECK.due("broken twins join too", x.joined(0, 1), 1);
        CHECK.noSuch("joined(8, 0)", () -> x.joined(8, 0));
        CHECK.noSuch("joined(0, 8)", () -> x.joined(0, 8));
        CHECK.noSuch("joined(-1, 0)", () -> x.joined(-1, 0));
        CHECK.noSuch("joined(0, -1)", () -> x.joined(0, -1));
    }

    private static void strife() {
        TwinLamps x = Check.street("home 0 6;home 3 9;lamp 0 1;lamp 1 1;wants 1;");
        CHECK.due("both want light: hours in which one is awake", x.strife(0, 1), 6);
        x.sleep(0, 9, 9);
        CHECK.due("one is always awake", x.strife(0, 1), 18);
        TwinLamps y = Check.street("home 0 6;home 3 9;lamp 0 1;lamp 1 1;wants house;");
        CHECK.due("light or dark: both awake 3, the lit one 3", y.strife(0, 1), 6);
        CHECK.due("the same, the other way round", y.strife(1, 0), 6);
        y.sleep(0, 0, 9);
        CHECK.due("both awake 6", y.strife(0, 1), 6);
        y.sleep(0, 0, 3);
        CHECK.due("never both awake: the lit one 6", y.strife(0, 1), 6);
        TwinLamps z = Check.street("home 0 0;lamp 0 1;lamp 0 5;wants oil<3 and hour<10;");
        CHECK.due("lamps of a house, oil as it is", z.strife(0, 1), 10);
        CHECK.due("of one and itself", z.strife(1, 1), 0);
        z.trim(1, 2);
        CHECK.due("with other oil", z.strife(0, 1), 0);
        CHECK.noSuch("strife(2, 0)", () -> z.strife(2, 0));
        CHECK.noSuch("strife(0, 2)", () -> z.strife(0, 2));
        CHECK.noSuch("strife(-1, 0)", () -> z.strife(-1, 0));
        CHECK.noSuch("strife(0, -1)", () -> z.strife(0, -1));
    }

    /** The strife of two lamps is how far their oil lies apart, at most 24. */
    private static TwinLamps byOil(int... oil) {
        StringBuilder text = new StringBuilder("home 0 0;");
        for (int some : oil) {
            text.append("lamp 0 ").append(some).append(';');
        }
        return Check.street(text.append("twins 0 1;twins 2 3;twins 4 5;wants hour<oil;").toString());
    }

    private static void betterTwins() {
        TwinLamps x = byOil(2, 20, 5, 11, 22, 10, 7);
        CHECK.due("strife(0, 1)", x.strife(0, 1), 18);
        CHECK.due("strife(3, 5)", x.strife(3, 5), 1);
        CHECK.due("least strife: 3 and 2 and 1", x.better(-1), 6);
        int[] twins = {2, 4, 0, 5, 1, 3, -1};
        for (int lamp = 0; lamp < twins.length; lamp++) {
            CHECK.due("better(" + lamp + ")", x.better(lamp), twins[lamp]);
        }
        CHECK.due("its twin stays", x.lamp(0, 2), 1);
        x.trim(4, 4);
        CHECK.due("least strife of other oil: 2 and 4, 5 and 10, 11 and 20", x.better(-1), 2 + 5 + 9);
        CHECK.noSuch("better(7)", () -> x.better(7));
        CHECK.noSuch("better(-2)", () -> x.better(-2));
    }

    private static void betterTwinsOfLikeCost() {
        TwinLamps x = Check.street("home 0 0;" + "lamp 0 1;".repeat(5) + "twins 4 0;twins 1 3;");
        CHECK.due("no strife", x.better(-1), 0);
        int[] twins = {1, 0, -1, 4, 3};
        for (int lamp = 0; lamp < twins.length; lamp++) {
            CHECK.due("the first row: better(" + lamp + ")", x.better(lamp), twins[lamp]);
        }
        TwinLamps y = byOil(1, 9, 1, 9, 5, 5);
        CHECK.due("least strife", y.better(-1), 0);
        CHECK.due("better(0)", y.better(0), 2);
        CHECK.due("better(5)", y.better(5), 4);
        TwinLamps z = byOil(0, 4, 8, 12, 16, 20);
        CHECK.due("least strife", z.better(-1), 12);
        CHECK.due("better(0)", z.better(0), 1);
        CHECK.due("better(3)", z.better(3), 2);
        TwinLamps none = Check.street("home 0 0;lamp 0 1;");
        CHECK.due("no twins: least strife", none.better(-1), 0);
        CHECK.due("no twins: better(0)", none.better(0), -1);
    }

    private static void brokenTwins() {
        TwinLamps x = byOil(2, 20, 5, 11, 22, 10);
        x.breaks(4);
        CHECK.due("least strife without 4 and 5: 3 and 9", x.better(-1), 12);
        CHECK.due("better(4)", x.better(4), -1);
        CHECK.due("better(5), whose twin is broken", x.better(5), -1);
        CHECK.due("better(0)", x.better(0), 2);
        CHECK.due("better(3)", x.better(3), 1);
    }

    /** House 0 wants dark, house 1 wants light and comes later. */
    private static void treaties() {
        TwinLamps x = Check.street("home 0 0;home 0 0;home 0 0;lamp 0 99;lamp 1 99;twins 0 1;wants house;");
        CHECK.due("treaty(0): awake in one hour alone", x.treaty(0), 1);
        CHECK.due("treaty(1)", x.treaty(1), 1);
        CHECK.due("treaty of a house without lamps", x.treaty(2), -1);
        x.sleep(0, 5, 5);
        CHECK.due("treaty(0), from 5 on", x.treaty(0), 6);
        x.sleep(0, 5, 6);
        CHECK.due("no fewer than now", x.treaty(0), -1);
        CHECK.due("hours stay", x.house(0, 2), 6);
        CHECK.due("acts", x.count(11), 2);
        TwinLamps y = Check.street("home 0 0;lamp 0 99;");
        CHECK.due("no complaints now", y.treaty(0), -1);
        CHECK.noSuch("treaty(1)", () -> y.treaty(1));
        CHECK.noSuch("treaty(-1)", () -> y.treaty(-1));
    }

    /** The houses are at odds from 22 on alone; who sleeps then is content. */
    private static void treatiesOfLikeWorth() {
        TwinLamps x = Check.street("home 5 5;home 0 0;lamp 0 99;lamp 1 99;twins 0 1;wants house and 21<hour;");
        CHECK.due("treaty(0): 6 to 22 are alike", x.treaty(0), 6);
        x.hours(30);
        CHECK.due("treaty(0), from 30 on", x.treaty(0), 6);
        // without house 0 the lamp of 1 burns in 22 and 23; asleep it can't put it out
        CHECK.due("treaty(1): 1 to 22 are alike", x.treaty(1), 1);
    }

    private static void funds() {
        TwinLamps x = Check.street("home 0 0;home 0 0;home 0 0;home 0 0;"
                + "lamp 0 0;lamp 1 5;lamp 1 5;lamp 2 5;lamp 2 5;lamp 2 5;twins 0 1;twins 2 3;twins 4 5;");
        CHECK.due("fund(0)", x.fund(0), 1);
        CHECK.due("fund(1)", x.fund(1), 1);
        CHECK.due("fund(2)", x.fund(2), 0);
        CHECK.due("fund(4)", x.fund(4), 0);
        x.breaks(3);
        CHECK.due("fund(0) now", x.fund(0), 3);
        CHECK.due("fund(2), whose twin is broken", x.fund(2), 0);
        CHECK.due("fund(3), which is broken", x.fund(3), 0);
        CHECK.due("fund(4) now, both twins in a house", x.fund(4), 4);
        CHECK.due("broken ones stay", x.count(5), 8);
        TwinLamps y = Check.street("home 0 0;home 0 0;lamp 1 5;");
        CHECK.due("fund of a singleton", y.fund(0), 2);
        CHECK.noSuch("fund(1)", () -> y.fund(1));
        CHECK.noSuch("fund(-1)", () -> y.fund(-1));
    }

    private static void signals() {
        TwinLamps x = Check.street("home 0 0;" + "lamp 0 1;".repeat(12));
        int[] sets = {0, 1, 1 << 11, 3, 7, 0xF, 0x1F, 0xAA1, 0x3FC, 0xFF8, 0xFFF};
        int[] rounds = {0, 0, 0, 1, 2, 2, 3, 3, 3, 4, 4};
        for (int i = 0; i < sets.length; i++) {
            CHECK.due("signals(" + sets[i] + ")", x.signals(sets[i]), rounds[i]);
        }
        CHECK.illegal("signals(1 << 12)", () -> x.signals(1 << 12));
        CHECK.illegal("signals(-1)", () -> x.signals(-1));
        CHECK.illegal("signals(least)", () -> x.signals(Integer.MIN_VALUE));
        TwinLamps y = Check.street("home 0 0;lamp 0 1;");
        CHECK.illegal("signals(2) of one lamp", () -> y.signals(2));
        CHECK.illegal("signals(3) of one lamp", () -> y.signals(3));
    }
}
