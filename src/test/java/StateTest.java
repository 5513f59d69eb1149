/** Promises 5 to 7: counts, houses, lamps. */
final class StateTest {
    private static final Check CHECK = new Check();

    public static void main(String[] args) {
        counts();
        countsOfStatus();
        houses();
        plunged();
        lamps();
        groups();
        CHECK.end();
    }

    private static void counts() {
        TwinLamps x = Check.street("home 6 22;tower 0 0;alley 20 4;"
                + "lamp 0 10;lamp 0 20;lamp 2 5;lamp 1 0;lamp 2 99;lamp 1 3;twins 0 1;twins 2 3;");
        CHECK.due("houses", x.count(0), 3);
        CHECK.due("lamps", x.count(1), 6);
        CHECK.due("couples", x.count(2), 2);
        CHECK.due("hour", x.count(3), 0);
        CHECK.due("oil", x.count(6), 137);
        CHECK.due("alone", x.count(7), 0x30);
        CHECK.due("happy", x.count(8), 3);
        CHECK.due("groups", x.count(9), 2);
        CHECK.due("awake at 0", x.count(10), 6);
        CHECK.noSuch("count(-1)", () -> x.count(-1));
        CHECK.noSuch("count(17)", () -> x.count(17));
        x.flick(1);
        CHECK.due("lit", x.count(4), 3);
        x.flick(4);
        CHECK.due("lit with a singleton", x.count(4), 0x13);
        x.breaks(2);
        x.breaks(0);
        CHECK.due("broken, without twins", x.count(5), 5);
        CHECK.due("lit ones but broken ones", x.count(4), 0x10);
        CHECK.due("acts", x.count(11), 4);
        x.hours(4);
        CHECK.due("hour", x.count(3), 4);
        CHECK.due("awake at 4", x.count(10), 2);
        x.hours(2);
        CHECK.due("awake at 6", x.count(10), 3);
        x.hours(16);
        CHECK.due("awake at 22", x.count(10), 6);
        x.hours(25);
        CHECK.due("awake at 47, an hour of the day 23", x.count(10), 6);
    }

    private static void countsOfStatus() {
        TwinLamps x = Check.street("home 0 0;lamp 0 5;");
        x.see(0, 5, true);
        x.see(0, 48, false);
        CHECK.due("seen", x.count(12), 2);
        x.see(0, 0, true);
        x.trim(0, 100);
        x.hours(49);
        CHECK.noSuch("see(1, 0, true)", () -> x.see(1, 0, true));
        CHECK.noSuch("trim(1, 100)", () -> x.trim(1, 100));
        x.street(Check.feed(x, "home 0 0"));
        CHECK.due("STATUS 0", x.count(14), 1);
        CHECK.due("STATUS 1", x.count(15), 2);
        CHECK.due("STATUS 2", x.count(16), 1);
        x.feed(0, 0, 0, 0, 0);
        CHECK.due("tape", x.count(13), 20);
        x.undo();
        CHECK.due("STATUS 1 behind an undo without acts", x.count(15), 2);
    }

    private static void houses() {
        TwinLamps x = Check.street("home 6 22;ballroom 0 23;alley 7 7;tower 1 2;lamp 1 1;lamp 3 1;lamp 1 1;");
        long[][] due = {{0, 6, 22, 0, 0}, {3, 0, 23, 5, 0}, {2, 7, 7, 0, 0}, {1, 1, 2, 2, 0}};
        for (int house = 0; house < due.length; house++) {
            for (int what = 0; what < 5; what++) {
                CHECK.due("house(" + house + ", " + what + ")", x.house(house, what), due[house][what]);
            }
        }
        CHECK.noSuch("house(4, 0)", () -> x.house(4, 0));
        CHECK.noSuch("house(-1, 0)", () -> x.house(-1, 0));
        CHECK.noSuch("house(0, 5)", () -> x.house(0, 5));
        CHECK.noSuch("house(0, -1)", () -> x.house(0, -1));
    }

    private static void plunged() {
        TwinLamps x = Check.street("home 0 0;home 0 0;home 0 0;lamp 0 1;lamp 0 1;lamp 0 1;lamp 1 1;lamp 2 1;lamp 2 1;"
                + "twins 0 1;twins 2 3;");
        CHECK.due("two twins in it, one elsewhere", x.house(0, 4), 3);
        CHECK.due("one twin elsewhere", x.house(1, 4), 1);
        CHECK.due("singletons", x.house(2, 4), 0);
        x.give(1, 2);
        CHECK.due("one given away", x.house(0, 4), 6);
        CHECK.due("to this one", x.house(2, 4), 1);
    }

    private static void lamps() {
        TwinLamps x = Check.street("home 6 22;tower 10 20;lamp 0 7;lamp 1 0;lamp 1 9;twins 2 0;");
        long[][] due = {{0, 7, 2, 0, 0, 0, 0x3C0000}, {1, 0, -1, 0, 0, 1, 0xFC003F}, {1, 9, 0, 0, 0, 1, 0xFC003F}};
        for (int lamp = 0; lamp < due.length; lamp++) {
            for (int what = 0; what < 7; what++) {
                CHECK.due("lamp(" + lamp + ", " + what + ")", x.lamp(lamp, what), due[lamp][what]);
            }
        }
        x.flick(0);
        x.breaks(1);
        CHECK.due("lit", x.lamp(2, 3), 1);
        CHECK.due("broken", x.lamp(1, 4), 1);
        CHECK.due("not broken", x.lamp(0, 4), 0);
        x.hours(18);
        CHECK.due("wanted at 18", x.lamp(0, 5), 1);
        x.hours(4);
        CHECK.due("not wanted at 22", x.lamp(0, 5), 0);
        CHECK.due("wanted by a tower that sleeps", x.lamp(2, 5), 1);
        CHECK.noSuch("lamp(3, 0)", () -> x.lamp(3, 0));
        CHECK.noSuch("lamp(-1, 0)", () -> x.lamp(-1, 0));
        CHECK.noSuch("lamp(0, 7)", () -> x.lamp(0, 7));
        CHECK.noSuch("lamp(0, -1)", () -> x.lamp(0, -1));
    }

    private static void groups() {
        TwinLamps x = Check.street("home 0 0;".repeat(8) + "lamp 7 1;lamp 6 1;lamp 6 1;lamp 5 1;lamp 0 1;lamp 5 1;"
                + "lamp 1 1;lamp 2 1;lamp 3 1;lamp 3 1;twins 0 1;twins 2 3;twins 4 5;twins 6 7;twins 8 9;");
        CHECK.due("groups 7650, 12, 3, 4", x.count(9), 4);
        x.give(6, 0);
        CHECK.due("groups 76502, 1, 3, 4", x.count(9), 4);
        x.give(8, 4);
        CHECK.due("groups 76502, 1, 34", x.count(9), 3);
        CHECK.due("houses alone", Check.street("home 0 0;home 0 0;").count(9), 2);
    }
}
