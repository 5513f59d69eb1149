/** Promises 8 to 14: acts, and that they are undone; what happens in an hour. */
final class ActsTest {
    private static final Check CHECK = new Check();

    public static void main(String[] args) {
        hours();
        lastHour();
        anHour();
        oilThatEnds();
        flicks();
        trims();
        breaks();
        gifts();
        sleeps();
        undone();
        fortyActs();
        CHECK.end();
    }

    private static void hours() {
        TwinLamps x = new TwinLamps();
        CHECK.due("hours(1)", x.hours(1), 1);
        CHECK.due("hours(48)", x.hours(48), 49);
        CHECK.due("acts", x.count(11), 2);
        CHECK.due("hours(0)", x.hours(0), -1);
        CHECK.due("hours(49)", x.hours(49), -1);
        CHECK.due("hours(-1)", x.hours(-1), -1);
        CHECK.due("hours(most)", x.hours(Integer.MAX_VALUE), -1);
        CHECK.due("hour", x.count(3), 49);
        CHECK.due("STATUS 1", x.count(15), 4);
        CHECK.due("acts", x.count(11), 2);
    }

    private static void lastHour() {
        TwinLamps x = new TwinLamps();
        for (int i = 1; i <= 208; i++) {
            CHECK.due("hours(48)", x.hours(48), 48 * i);
        }
        CHECK.due("hours(16) at 9984", x.hours(16), -1);
        CHECK.due("hours(15) at 9984", x.hours(15), 9999);
        CHECK.due("hours(1) at 9999", x.hours(1), -1);
        CHECK.due("STATUS 1", x.count(15), 2);
    }

    /** A home that is awake from 1 to 2, a tower that always is, twins between them; all want light in even hours. */
    private static void anHour() {
        TwinLamps x = Check.street("home 1 3;tower 0 0;lamp 0 9;lamp 1 9;lamp 0 9;twins 0 1;wants (hour+house)/2*2=hour+house;");
        // hour 0: the home sleeps, the tower wants none
        x.hours(1);
        CHECK.due("lit behind hour 0", x.count(4), 0);
        // hour 1: the home wants none, the tower wants light
        x.hours(1);
        CHECK.due("lit behind hour 1", x.count(4), 3);
        CHECK.due("oil of 0", x.lamp(0, 1), 8);
        CHECK.due("oil of 1", x.lamp(1, 1), 8);
        CHECK.due("oil of 2", x.lamp(2, 1), 9);
        // hour 2: the home wants light (both of its lamps), the tower puts its own out again
        x.hours(1);
        CHECK.due("lit behind hour 2", x.count(4), 4);
        CHECK.due("oil of 0", x.lamp(0, 1), 8);
        CHECK.due("oil of 2", x.lamp(2, 1), 8);
        // hour 3: the home sleeps: the singleton stays lit
        x.hours(1);
        CHECK.due("lit behind hour 3", x.count(4), 7);
        CHECK.due("oil in all", x.count(6), 7 + 7 + 7);
    }

    private static void oilThatEnds() {
        TwinLamps x = Check.street("home 0 0;lamp 0 2;lamp 0 9;lamp 0 1;lamp 0 0;lamp 0 5;twins 0 1;twins 3 4;wants 1;");
        x.hours(1);
        CHECK.due("lit behind one hour", x.count(4), 3);
        CHECK.due("oil of 2", x.lamp(2, 1), 0);
        CHECK.due("oil of 4, whose twin has none", x.lamp(4, 1), 5);
        x.hours(1);
        CHECK.due("lit behind two hours", x.count(4), 0);
        CHECK.due("oil of 1", x.lamp(1, 1), 7);
        x.hours(1);
        CHECK.due("oil of 1 stays", x.lamp(1, 1), 7);
    }

    private static void flicks() {
        TwinLamps x = Check.street("home 0 0;lamp 0 2;lamp 0 9;lamp 0 1;lamp 0 0;lamp 0 5;lamp 0 0;twins 0 1;twins 3 4;");
        CHECK.due("flick(1)", x.flick(1), 1);
        CHECK.due("lit", x.count(4), 3);
        CHECK.due("flick(0)", x.flick(0), 0);
        CHECK.due("lit", x.count(4), 0);
        CHECK.due("flick(2)", x.flick(2), 1);
        CHECK.due("lit", x.count(4), 4);
        CHECK.due("flick(2)", x.flick(2), 0);
        CHECK.due("acts", x.count(11), 4);
        CHECK.due("flick(3) without oil", x.flick(3), -1);
        CHECK.due("flick(4), whose twin has no oil", x.flick(4), -1);
        CHECK.due("flick(5) without oil", x.flick(5), -1);
        x.breaks(0);
        CHECK.due("flick(0) broken", x.flick(0), -1);
        CHECK.due("flick(1), whose twin is broken", x.flick(1), -1);
        CHECK.due("lit", x.count(4), 0);
        CHECK.due("STATUS 1", x.count(15), 5);
        CHECK.due("acts", x.count(11), 5);
        CHECK.noSuch("flick(6)", () -> x.flick(6));
        CHECK.noSuch("flick(-1)", () -> x.flick(-1));
    }

    private static void trims() {
        TwinLamps x = Check.street("home 0 0;lamp 0 2;lamp 0 9;lamp 0 0;twins 0 1;");
        x.flick(0);
        CHECK.due("trim(0, 99)", x.trim(0, 99), 2);
        CHECK.due("oil", x.lamp(0, 1), 99);
        CHECK.due("still lit", x.count(4), 3);
        CHECK.due("trim(0, 99) again", x.trim(0, 99), 99);
        CHECK.due("trim(1, 0)", x.trim(1, 0), 9);
        CHECK.due("both dark", x.count(4), 0);
        CHECK.due("trim(2, 0)", x.trim(2, 0), 0);
        CHECK.due("trim(2, 1)", x.trim(2, 1), 0);
        CHECK.due("flick(2)", x.flick(2), 1);
        CHECK.due("acts", x.count(11), 7);
        CHECK.due("trim(0, 100)", x.trim(0, 100), -1);
        CHECK.due("trim(0, -1)", x.trim(0, -1), -1);
        CHECK.due("oil stays", x.lamp(0, 1), 99);
        CHECK.due("STATUS 1", x.count(15), 2);
        CHECK.noSuch("trim(3, 100)", () -> x.trim(3, 100));
        CHECK.due("STATUS 1 behind an exception", x.count(15), 2);
    }

    private static void breaks() {
        TwinLamps x = Check.street("home 0 0;lamp 0 2;lamp 0 9;lamp 0 4;twins 0 1;");
        x.flick(0);
        x.flick(2);
        CHECK.due("breaks(1)", x.breaks(1), true);
        CHECK.due("lit", x.count(4), 4);
        CHECK.due("broken", x.count(5), 2);
        CHECK.due("breaks(1) again", x.breaks(1), false);
        CHECK.due("STATUS 1", x.count(15), 1);
        CHECK.due("breaks(0), whose twin is broken", x.breaks(0), true);
        CHECK.due("broken", x.count(5), 3);
        CHECK.due("acts", x.count(11), 4);
        x.trim(0, 50);
        x.hours(1);
        CHECK.due("broken ones burn no oil", x.lamp(0, 1), 50);
        CHECK.noSuch("breaks(3)", () -> x.breaks(3));
        CHECK.noSuch("breaks(-1)", () -> x.breaks(-1));
    }

    private static void gifts() {
        TwinLamps x = Check.street("home 0 0;alley 0 0;lamp 0 2;lamp 0 9;twins 0 1;");
        x.flick(0);
        CHECK.due("give(0, 1)", x.give(0, 1), 0);
        CHECK.due("its house", x.lamp(0, 0), 1);
        CHECK.due("lit as it was", x.count(4), 3);
        CHECK.due("happy no more", x.count(8), 0);
        CHECK.due("lamps of 1", x.house(1, 3), 1);
        CHECK.due("give(0, 1) again", x.give(0, 1), -1);
        CHECK.due("STATUS 1", x.count(15), 1);
        CHECK.due("acts", x.count(11), 2);
        CHECK.due("give(0, 0)", x.give(0, 0), 1);
        CHECK.noSuch("give(2, 0)", () -> x.give(2, 0));
        CHECK.noSuch("give(-1, 0)", () -> x.give(-1, 0));
        CHECK.noSuch("give(0, 2)", () -> x.give(0, 2));
        CHECK.noSuch("give(0, -1)", () -> x.give(0, -1));
        CHECK.due("STATUS 1 behind exceptions", x.count(15), 1);
    }

    private static void sleeps() {
        TwinLamps x = Check.street("home 6 22;home 0 0;");
        CHECK.due("sleep(0, 23, 0)", x.sleep(0, 23, 0), 166);
        CHECK.due("wakes", x.house(0, 1), 23);
        CHECK.due("sleeps", x.house(0, 2), 0);
        CHECK.due("sleep(0, 23, 0) again", x.sleep(0, 23, 0), 552);
        CHECK.due("acts", x.count(11), 2);
        CHECK.due("awake at 0", x.count(10), 2);
        CHECK.due("sleep(0, 24, 0)", x.sleep(0, 24, 0), -1);
        CHECK.due("sleep(0, 0, 24)", x.sleep(0, 0, 24), -1);
        CHECK.due("sleep(0, -1, 0)", x.sleep(0, -1, 0), -1);
        CHECK.due("sleep(0, 0, -1)", x.sleep(0, 0, -1), -1);
        CHECK.due("wakes", x.house(0, 1), 23);
        CHECK.due("STATUS 1", x.count(15), 4);
        CHECK.noSuch("sleep(2, 24, 0)", () -> x.sleep(2, 24, 0));
        CHECK.noSuch("sleep(-1, 0, 0)", () -> x.sleep(-1, 0, 0));
    }

    private static void undone() {
        TwinLamps x = Check.street("home 0 0;home 3 4;lamp 0 9;lamp 1 9;lamp 1 1;twins 0 1;wants 1;");
        x.flick(2);
        x.hours(48);
        x.trim(0, 7);
        x.flick(0);
        x.trim(1, 3);
        x.flick(1);
        x.trim(1, 0);
        x.give(2, 0);
        x.sleep(1, 5, 6);
        x.breaks(0);
        x.see(0, 1, true);
        x.hours(0);
        CHECK.due("undo breaks", x.undo(), 8);
        CHECK.due("broken", x.count(5), 0);
        CHECK.due("undo sleep", x.undo(), 7);
        CHECK.due("wakes", x.house(1, 1), 3);
        CHECK.due("sleeps", x.house(1, 2), 4);
        CHECK.due("undo give", x.undo(), 6);
        CHECK.due("house of 2", x.lamp(2, 0), 1);
        CHECK.due("undo trim", x.undo(), 5);
        CHECK.due("oil of 1", x.lamp(1, 1), 3);
        CHECK.due("lit again", x.count(4), 3);
        CHECK.due("undo flick", x.undo(), 4);
        CHECK.due("dark again", x.count(4), 0);
        CHECK.due("undo trim; the flick that was refused was none", x.undo(), 3);
        CHECK.due("oil of 1", x.lamp(1, 1), 0);
        CHECK.due("undo trim", x.undo(), 2);
        CHECK.due("oil of 0", x.lamp(0, 1), 0);
        CHECK.due("undo hours", x.undo(), 1);
        CHECK.due("hour", x.count(3), 0);
        CHECK.due("oil", x.count(6), 19);
        CHECK.due("lit", x.count(4), 4);
        CHECK.due("undo flick", x.undo(), 0);
        CHECK.due("lit", x.count(4), 0);
        CHECK.due("undo without", x.undo(), -1);
        CHECK.due("STATUS 1 stays", x.count(15), 2);
        CHECK.due("seen stays", x.count(12), 1);
    }

    private static void fortyActs() {
        TwinLamps x = Check.street("home 0 0;lamp 0 99;");
        for (int i = 0; i < 45; i++) {
            CHECK.due("trim", x.trim(0, i), i == 0 ? 99 : i - 1);
            CHECK.due("acts", x.count(11), Math.min(i + 1, 40));
        }
        for (int i = 39; i >= 0; i--) {
            CHECK.due("undo", x.undo(), i);
            CHECK.due("oil", x.lamp(0, 1), i + 4);
        }
        CHECK.due("undo without", x.undo(), -1);
        CHECK.due("oil of the oldest that is kept", x.lamp(0, 1), 4);
        CHECK.due("STATUS 1", x.count(15), 0);
    }
}
