/** Part 2 of the document and promises 5 to 14, sentence by sentence: what stands at an edge, and what beyond it. */
final class HourEdgesTest {
    private static final Check CHECK = new Check();
    private static final int[] FAR = {Integer.MIN_VALUE, Integer.MAX_VALUE, -2};
    private static final String COUPLE = "home 0 0;lamp 0 9;lamp 0 9;twins 0 1;";

    public static void main(String[] args) {
        countsOfTheStreet();
        countsOfWhatHappened();
        noSuchCount();
        houses();
        lamps();
        atFirst();
        wantsByARule();
        wantsByCustom();
        lampByLamp();
        whoIsFlicked();
        bothBecome();
        onlyIfTheyCan();
        quarrels();
        burning();
        hourAndLitIn();
        complaints();
        fortyActs();
        actsThatChangeNothing();
        hoursGoBy();
        lastHour();
        flickedByHand();
        trimmed();
        broken();
        given();
        otherHours();
        undoneOneByOne();
        undoneWithout();
        status();
        CHECK.end();
    }

    // ---- promises 5 to 7

    private static void countsOfTheStreet() {
        CHECK.sentence("0 HOUSES, 1 LAMPS, 2 TWINS (couples), 3 the HOUR,");
        TwinLamps x = Check.street("home 0 1;".repeat(8) + "lamp 7 99;lamp 6 99;".repeat(6)
                + "twins 0 2;twins 1 3;twins 4 5;twins 6 7;twins 8 9;twins 10 11;");
        int[] due = {8, 12, 6, 0, 0, 0, 1188, 0, 15, 7, 255, 0, 0, 0, 0, 0, 0};
        for (int what = 0; what < due.length; what++) {
            CHECK.due("all full: count(" + what + ")", x.count(what), due[what]);
        }
        TwinLamps y = Check.street("home 0 0;lamp 0 0;");
        int[] dueToo = {1, 1, 0, 0, 0, 0, 0, 1, 0, 1, 1, 0, 0, 0, 0, 0, 0};
        for (int what = 0; what < dueToo.length; what++) {
            CHECK.due("one lamp: count(" + what + ")", y.count(what), dueToo[what]);
        }
    }

    private static void countsOfWhatHappened() {
        CHECK.sentence("4 what is LIT (bits), 5 what is BROKEN (bits; TWINS of these not), 6 OIL in all, 7 ALONE (bits),"
            + " 8 HAPPY (bits), 9 JOINED: groups,");
        TwinLamps x = Check.street("home 9 10;home 9 10;" + "lamp 0 3;".repeat(12) + "twins 11 10;twins 9 0;wants 0;");
        CHECK.due("alone", x.count(7), 0x1FE);
        CHECK.due("happy", x.count(8), 0xE01);
        CHECK.due("groups", x.count(9), 2);
        x.flick(11);
        x.flick(8);
        CHECK.due("lit", x.count(4), 0xD00);
        x.breaks(10);
        CHECK.due("lit, one being broken", x.count(4), 0x100);
        CHECK.due("broken, without its twin", x.count(5), 0x400);
        x.give(9, 1);
        CHECK.due("happy", x.count(8), 0xC00);
        CHECK.due("groups", x.count(9), 1);
        CHECK.due("alone as ever", x.count(7), 0x1FE);
        x.hours(2);
        CHECK.due("oil", x.count(6), 34);
        CHECK.sentence("10 HOUSES that are AWAKE in the next HOUR (bits),");
        x.hours(6);
        CHECK.due("at 8", x.count(10), 0);
        x.hours(1);
        CHECK.due("at 9", x.count(10), 3);
        x.sleep(0, 10, 9);
        CHECK.due("at 9, one till 9", x.count(10), 2);
        x.hours(1);
        CHECK.due("at 10, one till 10", x.count(10), 1);
        CHECK.sentence("11 ACTS that are kept, 12 SEEN, 13 bytes of the tape, 14 to 16 STATUS 0 to 2.");
        x.see(0, 1, true);
        x.see(0, 0, true);
        x.street(Check.feed(x, "!"));
        x.street(Check.feed(x, "!"));
        x.give(0, 0);
        x.flick(10);
        x.trim(0, -1);
        x.feed(0, 0, 0, 0, 0);
        CHECK.due("acts", x.count(11), 9);
        CHECK.due("seen", x.count(12), 1);
        CHECK.due("tape", x.count(13), 20);
        CHECK.due("STATUS 0", x.count(14), 2);
        CHECK.due("STATUS 1", x.count(15), 3);
        CHECK.due("STATUS 2", x.count(16), 1);
    }

    private static void noSuchCount() {
        CHECK.sentence("NoSuchElementException: another what.");
        TwinLamps x = new TwinLamps();
        CHECK.noSuch("count(-1)", () -> x.count(-1));
        CHECK.noSuch("count(17)", () -> x.count(17));
        for (int what : FAR) {
            CHECK.noSuch("count(" + what + ")", () -> x.count(what));
        }
    }

    private static void houses() {
        CHECK.sentence("Of a HOUSE: 0 KIND, 1 WAKES, 2 SLEEPS, 3 its LAMPS (bits), 4 PLUNGED (bits).");
        TwinLamps x = Check.street("home 0 0;".repeat(7) + "ballroom 23 22;lamp 7 1;" + "lamp 0 1;".repeat(10) + "lamp 7 1;twins 0 1;");
        int[] due = {3, 23, 22, 0x801, 1};
        for (int what = 0; what < due.length; what++) {
            CHECK.due("house(7, " + what + ")", x.house(7, what), due[what]);
        }
        CHECK.due("house(0, 3)", x.house(0, 3), 0x7FE);
        CHECK.due("house(0, 4)", x.house(0, 4), 128);
        CHECK.due("house(1, 3)", x.house(1, 3), 0);
        CHECK.due("house(1, 4)", x.house(1, 4), 0);
        CHECK.sentence("NoSuchElementException: no such HOUSE (as everywhere), what.");
        CHECK.noSuch("house(8, 0)", () -> x.house(8, 0));
        CHECK.noSuch("house(-1, 0)", () -> x.house(-1, 0));
        CHECK.noSuch("house(0, 5)", () -> x.house(0, 5));
        CHECK.noSuch("house(0, -1)", () -> x.house(0, -1));
        for (int far : FAR) {
            CHECK.noSuch("house(far, 0)", () -> x.house(far, 0));
            CHECK.noSuch("house(0, far)", () -> x.house(0, far));
            CHECK.noSuch("give(0, far)", () -> x.give(0, far));
            CHECK.noSuch("sleep(far, 0, 0)", () -> x.sleep(far, 0, 0));
            CHECK.noSuch("grief(far, 0)", () -> x.grief(far, 0));
            CHECK.noSuch("joined(far, 0)", () -> x.joined(far, 0));
            CHECK.noSuch("joined(0, far)", () -> x.joined(0, far));
            CHECK.noSuch("treaty(far)", () -> x.treaty(far));
        }
    }

    private static void lamps() {
        CHECK.sentence("Of a LAMP: 0 its HOUSE, 1 OIL, 2 TWIN (NONE), 3 whether it is LIT (1), 4 whether it is BROKEN (1),");
        TwinLamps x = Check.street("home 3 5;tower 3 5;lamp 1 99;lamp 0 0;lamp 1 7;lamp 0 5;twins 3 0;wants hour=4 or hour=23;");
        x.flick(0);
        x.breaks(2);
        int[][] due = {{1, 99, 3, 1, 0}, {0, 0, -1, 0, 0}, {1, 7, -1, 0, 1}, {0, 5, 0, 1, 0}};
        for (int lamp = 0; lamp < due.length; lamp++) {
            for (int what = 0; what < 5; what++) {
                CHECK.due("lamp(" + lamp + ", " + what + ")", x.lamp(lamp, what), due[lamp][what]);
            }
        }
        CHECK.sentence("5 whether its HOUSE WANTS it LIT in the next HOUR (1), 6 hours of the day in which it WANTS it LIT (bits).");
        for (int hour = 0; hour < 48; hour++) {
            CHECK.due("lamp(0, 5) at " + hour, x.lamp(0, 5), hour % 24 == 4 || hour % 24 == 23 ? 1 : 0);
            CHECK.due("lamp(0, 6) at " + hour, x.lamp(0, 6), 1 << 4 | 1 << 23);
            x.hours(1);
        }
        CHECK.sentence("NoSuchElementException: no such LAMP (as everywhere), what.");
        CHECK.noSuch("lamp(4, 0)", () -> x.lamp(4, 0));
        CHECK.noSuch("lamp(-1, 0)", () -> x.lamp(-1, 0));
        CHECK.noSuch("lamp(0, 7)", () -> x.lamp(0, 7));
        CHECK.noSuch("lamp(0, -1)", () -> x.lamp(0, -1));
        for (int far : FAR) {
            noSuchLamp(x, far);
            CHECK.noSuch("lamp(0, far)", () -> x.lamp(0, far));
        }
        noSuchLamp(x, 4);
        CHECK.noSuch("flick(-1)", () -> x.flick(-1));
        CHECK.due("no exception counts", x.count(15) + x.count(16), 0);
    }

    private static void noSuchLamp(TwinLamps x, int lamp) {
        CHECK.noSuch("lamp", () -> x.lamp(lamp, 0));
        CHECK.noSuch("flick", () -> x.flick(lamp));
        CHECK.noSuch("trim", () -> x.trim(lamp, 1));
        CHECK.noSuch("breaks", () -> x.breaks(lamp));
        CHECK.noSuch("give", () -> x.give(lamp, 0));
        CHECK.noSuch("burnt", () -> x.burnt(lamp, 1));
        CHECK.noSuch("shining", () -> x.shining(lamp, 1));
        CHECK.noSuch("soonest", () -> x.soonest(lamp));
        CHECK.noSuch("lasts", () -> x.lasts(lamp));
        CHECK.noSuch("strife", () -> x.strife(lamp, 0));
        CHECK.noSuch("strife of another one", () -> x.strife(0, lamp));
        CHECK.noSuch("better", () -> x.better(lamp));
        CHECK.noSuch("fund", () -> x.fund(lamp));
        CHECK.noSuch("see", () -> x.see(lamp, 1, true));
        CHECK.noSuch("whose", () -> x.whose(lamp));
        CHECK.noSuch("look", () -> x.look(lamp, 0));
        CHECK.noSuch("game", () -> x.game(lamp, 0, 0));
        CHECK.noSuch("game of another one", () -> x.game(0, lamp, 0));
    }

    // ---- part 2: an hour

    private static void atFirst() {
        CHECK.sentence("At first no LAMP is LIT, the HOUR is 0.");
        TwinLamps x = Check.street("home 0 0;lamp 0 9;wants 1;");
        CHECK.due("lit", x.count(4), 0);
        CHECK.due("hour", x.count(3), 0);
        x.hours(5);
        x.street(Check.feed(x, "home 0 0;lamp 0 9;wants 1;"));
        CHECK.due("lit in another street", x.count(4), 0);
        CHECK.due("hour of another street", x.count(3), 0);
    }

    private static void wantsByARule() {
        CHECK.sentence("A HOUSE WANTS a LAMP of its to be LIT in an HOUR, if WANTS gives more than 0");
        String[] some = {"0", "1", "2", "9999", "0-1", "0-9999", "8192*8192*32", "8192*8192*32-1", "hour-hour", "1-hour+hour"};
        boolean[] lit = {false, true, true, true, false, false, false, true, false, true};
        for (int i = 0; i < some.length; i++) {
            TwinLamps x = Check.street("alley 0 0;lamp 0 9;wants " + some[i] + ";");
            CHECK.due("wants " + some[i] + " lamp(0, 5)", x.lamp(0, 5), lit[i] ? 1 : 0);
            CHECK.due("wants " + some[i] + " then(1)", x.then(1), lit[i] ? 1 : 0);
        }
    }

    private static void wantsByCustom() {
        int night = Check.row(18, 24) | Check.row(0, 6);
        CHECK.sentence("(without it: if it is AWAKE, and the hour of the day is 18 or more, or less than 6;");
        custom("home 0 0", night);
        custom("home 17 19", Check.row(18, 19));
        custom("home 5 7", Check.row(5, 6));
        custom("home 6 18", 0);
        custom("home 23 1", Check.row(23, 24) | 1);
        CHECK.sentence("a tower whether AWAKE or not;");
        custom("tower 0 0", night);
        custom("tower 6 18", night);
        CHECK.sentence("an alley never;");
        custom("alley 0 0", 0);
        custom("alley 18 6", 0);
        CHECK.sentence("a ballroom till 3 more, less than 9).");
        custom("ballroom 0 0", Check.row(18, 24) | Check.row(0, 9));
        custom("ballroom 8 10", Check.row(8, 9));
        custom("ballroom 9 18", 0);
        custom("ballroom 17 19", Check.row(18, 19));
    }

    private static void custom(String house, int hours) {
        CHECK.due(house + " lamp(0, 6)", Check.street(house + ";lamp 0 1;").lamp(0, 6), hours);
    }

    /** House 0 wants dark, house 1 wants light: the lamp that comes later has the last word. */
    private static void lampByLamp() {
        CHECK.sentence("An HOUR: LAMP by LAMP, in their order:");
        CHECK.due("dark, then light", Check.street("home 0 0;home 0 0;lamp 0 9;lamp 1 9;twins 0 1;wants house;").then(1), 3);
        CHECK.due("light, then dark", Check.street("home 0 0;home 0 0;lamp 1 9;lamp 0 9;twins 0 1;wants house;").then(1), 0);
        CHECK.due("as told: dark, then light", Check.street("home 0 0;home 0 0;lamp 0 9;lamp 1 9;twins 1 0;wants house;").then(1), 3);
    }

    private static void whoIsFlicked() {
        CHECK.sentence("if its HOUSE is AWAKE, and the LAMP isn't as it WANTS, it is FLICKED:");
        TwinLamps x = Check.street("tower 2 4;lamp 0 9;wants 1;");
        int[] lit = {0, 0, 1, 1, 1, 1};
        for (int hour = 0; hour < lit.length; hour++) {
            CHECK.due("wanted lit, awake from 2 to 3: then(" + (hour + 1) + ")", x.then(hour + 1), lit[hour]);
        }
        TwinLamps y = Check.street("tower 2 4;lamp 0 9;wants 0;");
        y.flick(0);
        CHECK.due("wanted dark: then(2)", y.then(2), 1);
        CHECK.due("wanted dark: then(3)", y.then(3), 0);
        TwinLamps z = Check.street(COUPLE + "wants 1;");
        CHECK.due("the second one is as is wanted then", z.quarrels(1), 0);
        z.flick(0);
        CHECK.due("both are as is wanted", z.quarrels(1), 0);
        CHECK.due("and stay so", z.then(1), 3);
    }

    private static void bothBecome() {
        CHECK.sentence("it and its TWIN become as it WANTS, both");
        TwinLamps x = Check.street("home 0 0;home 5 6;lamp 0 9;lamp 1 9;lamp 1 9;twins 0 1;wants hour=0;");
        CHECK.due("then(1)", x.then(1), 3);
        CHECK.due("then(2)", x.then(2), 0);
        x.hours(1);
        CHECK.due("lit", x.count(4), 3);
        CHECK.due("the twin burns too", x.lamp(1, 1), 8);
        TwinLamps y = Check.street("home 5 6;home 0 0;lamp 0 9;lamp 1 9;twins 0 1;wants hour=0;");
        CHECK.due("by the later one: then(1)", y.then(1), 3);
        CHECK.due("by the later one: then(2)", y.then(2), 0);
    }

    private static void onlyIfTheyCan() {
        CHECK.sentence("(LIT only, if they CAN: both have OIL, and neither is BROKEN; else nothing is done).");
        int[][] oil = {{1, 1}, {0, 1}, {1, 0}, {0, 0}};
        for (int[] two : oil) {
            TwinLamps x = Check.street("home 0 0;lamp 0 " + two[0] + ";lamp 0 " + two[1] + ";twins 0 1;wants 1;");
            boolean can = two[0] == 1 && two[1] == 1;
            String name = "oil " + two[0] + " " + two[1];
            CHECK.due(name + " then(1)", x.then(1), can ? 3 : 0);
            CHECK.due(name + " burnt(0, 1)", x.burnt(0, 1), can ? 1 : 0);
            CHECK.due(name + " burnt(1, 1)", x.burnt(1, 1), can ? 1 : 0);
            CHECK.due(name + " quarrels(9)", x.quarrels(9), 0);
            CHECK.due(name + " flick(0)", x.flick(0), can ? 1 : -1);
        }
        for (int lamp = 0; lamp < 2; lamp++) {
            TwinLamps x = Check.street(COUPLE + "wants 1;");
            x.breaks(lamp);
            CHECK.due(lamp + " is broken: then(1)", x.then(1), 0);
            CHECK.due(lamp + " is broken: quarrels(9)", x.quarrels(9), 0);
            CHECK.due(lamp + " is broken: flick(0)", x.flick(0), -1);
            CHECK.due(lamp + " is broken: flick(1)", x.flick(1), -1);
        }
        CHECK.due("a singleton with oil", Check.street("home 0 0;lamp 0 1;wants 1;").then(1), 1);
        CHECK.due("a singleton without", Check.street("home 0 0;lamp 0 0;wants 1;").then(1), 0);
    }

    private static void quarrels() {
        CHECK.sentence("A QUARREL is each FLICK but the first one of a LAMP or its TWIN in an HOUR.");
        TwinLamps x = Check.street("home 0 0;home 0 0;" + "lamp 1 99;lamp 0 99;".repeat(6)
                + "twins 0 1;twins 2 3;twins 4 5;twins 6 7;twins 8 9;twins 10 11;wants house;");
        CHECK.due("six couples, each lit and put out", x.quarrels(1), 6);
        CHECK.due("in each hour anew", x.quarrels(96), 576);
        TwinLamps y = Check.street("home 0 0;home 0 0;lamp 1 9;lamp 1 9;lamp 0 9;lamp 1 9;twins 0 2;wants house;");
        CHECK.due("singletons don't quarrel, one couple does", y.quarrels(1), 1);
        TwinLamps z = Check.street("home 0 0;lamp 0 9;lamp 0 8;twins 0 1;wants oil=9;");
        CHECK.due("in one house, by their oil", z.quarrels(1), 1);
        TwinLamps one = Check.street("home 0 0;home 0 0;lamp 0 9;lamp 1 9;twins 0 1;wants house;");
        CHECK.due("one flick in the first hour", one.quarrels(1), 0);
        CHECK.due("two in each hour then", one.quarrels(3), 2);
    }

    private static void burning() {
        CHECK.sentence("Then each that is LIT burns 1 OIL; if one of these has none then, it and its TWIN aren't LIT any more");
        TwinLamps x = Check.street("home 0 0;lamp 0 2;lamp 0 5;lamp 0 1;lamp 0 3;lamp 0 0;lamp 0 9;twins 1 0;wants 1-hour;");
        x.hours(1);
        CHECK.due("lit behind an hour", x.count(4), 0x2B);
        CHECK.due("oil of a couple", x.lamp(0, 1) * 10 + x.lamp(1, 1), 14);
        CHECK.due("oil of the one that burnt out", x.lamp(2, 1), 0);
        CHECK.due("oil of the one that had none", x.lamp(4, 1), 0);
        CHECK.due("oil in all", x.count(6), 20 - 5);
        x.sleep(0, 20, 21);
        x.hours(1);
        CHECK.due("lit behind two", x.count(4), 0x28);
        CHECK.due("oil of a couple", x.lamp(0, 1) * 10 + x.lamp(1, 1), 3);
        x.hours(1);
        CHECK.due("a dark one doesn't burn", x.lamp(1, 1), 3);
        CHECK.due("lit behind three", x.count(4), 0x20);
        CHECK.sentence("(one that didn't burn counts for nothing).");
        TwinLamps y = Check.street("home 9 10;lamp 0 9;lamp 0 9;lamp 0 9;lamp 0 0;twins 0 1;twins 2 3;");
        y.flick(0);
        y.see(0, 9, true);
        y.see(3, 1, false);
        CHECK.due("0, lit, with 3, dark and without oil", y.whose(0), 4096 + 12);
    }

    private static void hourAndLitIn() {
        CHECK.sentence("The HOUR is 1 more then.");
        TwinLamps x = Check.street("home 0 0;lamp 0 1;wants hour=0;");
        CHECK.due("hours(1)", x.hours(1), 1);
        CHECK.due("count(3)", x.count(3), 1);
        CHECK.sentence("LIT IN an HOUR is what is LIT after the FLICKS, ahead of burning.");
        TwinLamps y = Check.street("home 0 0;lamp 0 1;wants hour=0;");
        CHECK.due("then(1)", y.then(1), 1);
        CHECK.due("shining(0, 1)", y.shining(0, 1), 1);
        CHECK.due("soonest(0)", y.soonest(0), 1);
        y.hours(1);
        CHECK.due("lit behind it", y.count(4), 0);
        TwinLamps z = Check.street("home 0 0;lamp 0 1;wants 0;");
        z.flick(0);
        CHECK.due("lit ahead of the flicks counts for nothing", z.then(1), 0);
        CHECK.due("and burns nothing", z.burnt(0, 1), 0);
    }

    private static void complaints() {
        CHECK.sentence("A COMPLAINT: a HOUSE that is AWAKE WANTS a LAMP to be otherwise than it is IN an HOUR, once for each.");
        TwinLamps x = Check.street("home 0 0;home 0 0;lamp 0 9;lamp 1 9;twins 0 1;wants house;");
        CHECK.due("lit, wanted dark", x.grief(0, 1), 1);
        CHECK.due("lit, wanted lit", x.grief(1, 1), 0);
        TwinLamps y = Check.street("home 0 0;home 0 0;lamp 1 9;lamp 0 9;twins 0 1;wants house;");
        CHECK.due("dark, wanted lit", y.grief(1, 1), 1);
        CHECK.due("dark, wanted dark", y.grief(0, 1), 0);
        TwinLamps z = Check.street("home 1 3;lamp 0 0;lamp 0 0;lamp 0 0;twins 0 2;wants 1;");
        CHECK.due("asleep", z.grief(0, 1), 0);
        CHECK.due("awake, three of them", z.grief(0, 2), 3);
        CHECK.due("awake in two hours", z.grief(0, 24), 6);
        TwinLamps w = Check.street("home 0 0;lamp 0 1;wants 1;");
        CHECK.due("lit in its last hour", w.grief(0, 1), 0);
        CHECK.due("dark in the next one", w.grief(0, 2), 1);
    }

    // ---- acts

    private static void fortyActs() {
        CHECK.sentence("ACTS (at most 40 are kept, the latest ones;");
        TwinLamps x = Check.street("home 0 0;lamp 0 99;");
        for (int i = 0; i <= 41; i++) {
            x.trim(0, i);
            CHECK.due("acts behind " + (i + 1), x.count(11), Math.min(40, i + 1));
        }
        for (int i = 40; i >= 1; i--) {
            CHECK.due("undo()", x.undo(), i - 1);
            CHECK.due("oil", x.lamp(0, 1), i);
        }
        CHECK.due("undo() of none", x.undo(), -1);
        CHECK.due("oil of the two that aren't kept", x.lamp(0, 1), 1);
        TwinLamps y = Check.street("home 0 0;lamp 0 99;");
        for (int i = 0; i < 40; i++) {
            y.trim(0, i);
        }
        for (int i = 0; i < 40; i++) {
            y.undo();
        }
        CHECK.due("forty are kept indeed", y.lamp(0, 1), 99);
    }

    private static void actsThatChangeNothing() {
        CHECK.sentence("also one by which nothing changes):");
        TwinLamps x = Check.street("home 3 4;lamp 0 7;lamp 0 0;");
        CHECK.due("trim(0, 7)", x.trim(0, 7), 7);
        CHECK.due("trim(1, 0)", x.trim(1, 0), 0);
        CHECK.due("sleep(0, 3, 4)", x.sleep(0, 3, 4), 76);
        CHECK.due("acts", x.count(11), 3);
        CHECK.due("undo()", x.undo(), 2);
        CHECK.due("undo()", x.undo(), 1);
        CHECK.due("undo()", x.undo(), 0);
        CHECK.due("STATUS 1", x.count(15), 0);
    }

    private static void hoursGoBy() {
        CHECK.sentence("HOURS go by (1 to 48);");
        TwinLamps x = Check.street("home 0 0;lamp 0 99;wants 1;");
        CHECK.due("hours(1)", x.hours(1), 1);
        CHECK.due("hours(48)", x.hours(48), 49);
        CHECK.due("oil", x.lamp(0, 1), 50);
        CHECK.due("each of both one act", x.count(11), 2);
        CHECK.sentence("HOURS go by: the HOUR. NONE (STATUS 1): not 1 to 48, it would be above 9999.");
        int[] wrong = {0, 49, -1, -48, 9999, Integer.MAX_VALUE, Integer.MIN_VALUE};
        for (int i = 0; i < wrong.length; i++) {
            CHECK.due("hours(" + wrong[i] + ")", x.hours(wrong[i]), -1);
            CHECK.due("STATUS 1", x.count(15), i + 1);
        }
        CHECK.due("the hour stays", x.count(3), 49);
        CHECK.due("acts stay", x.count(11), 2);
        CHECK.due("oil stays", x.lamp(0, 1), 50);
    }

    private static void lastHour() {
        CHECK.sentence("it would be above 9999.");
        TwinLamps x = Check.street("home 0 0;lamp 0 9;wants hour=15;");
        for (int i = 0; i < 208; i++) {
            x.hours(48);
        }
        CHECK.due("hours(16) at 9984", x.hours(16), -1);
        CHECK.due("hours(15) at 9984", x.hours(15), 9999);
        CHECK.due("hours(1) at 9999", x.hours(1), -1);
        CHECK.due("STATUS 1", x.count(15), 2);
        CHECK.due("acts", x.count(11), 40);
        x.trim(0, 9);
        CHECK.due("what comes is reckoned beyond: then(1), an hour of the day 15", x.then(1), 1);
        CHECK.due("grief(0, 96)", x.grief(0, 96), 0);
        CHECK.due("burnt(0, 96)", x.burnt(0, 96), 4);
        x.undo();
        CHECK.due("undo()", x.undo(), 38);
        CHECK.due("hour", x.count(3), 9984);
        CHECK.due("hours(15) again", x.hours(15), 9999);
    }

    private static void flickedByHand() {
        CHECK.sentence("a LAMP is FLICKED by hand (if it is LIT, it and its TWIN aren't any more; else both are, if they CAN);");
        TwinLamps x = Check.street("home 0 0;lamp 0 1;lamp 0 1;lamp 0 1;lamp 0 0;lamp 0 9;twins 1 0;twins 3 4;");
        CHECK.due("flick(0)", x.flick(0), 1);
        CHECK.due("lit", x.count(4), 3);
        CHECK.due("flick(1)", x.flick(1), 0);
        CHECK.due("lit", x.count(4), 0);
        CHECK.due("flick(2), alone", x.flick(2), 1);
        CHECK.due("lit", x.count(4), 4);
        CHECK.due("flick(2) again", x.flick(2), 0);
        CHECK.due("oil stays", x.count(6), 12);
        CHECK.sentence("FLICKED: 1 it is LIT, 0 not. NONE (STATUS 1): it can't be LIT.");
        CHECK.due("flick(3), without oil", x.flick(3), -1);
        CHECK.due("flick(4), whose twin has none", x.flick(4), -1);
        x.breaks(2);
        CHECK.due("flick(2), broken", x.flick(2), -1);
        x.breaks(1);
        CHECK.due("flick(0), whose twin is broken", x.flick(0), -1);
        CHECK.due("flick(1), broken", x.flick(1), -1);
        CHECK.due("STATUS 1", x.count(15), 5);
        CHECK.due("acts", x.count(11), 6);
        CHECK.due("lit", x.count(4), 0);
    }

    private static void trimmed() {
        CHECK.sentence("one is TRIMMED: OIL becomes another;");
        TwinLamps x = Check.street(COUPLE + "lamp 0 9;");
        x.flick(0);
        x.flick(2);
        CHECK.due("trim(0, 1)", x.trim(0, 1), 9);
        CHECK.due("oil of 0", x.lamp(0, 1), 1);
        CHECK.due("oil of 1", x.lamp(1, 1), 9);
        CHECK.due("lit", x.count(4), 7);
        CHECK.sentence("TRIMMED: OIL as it was (with none it and its TWIN aren't LIT).");
        CHECK.due("trim(1, 0)", x.trim(1, 0), 9);
        CHECK.due("lit", x.count(4), 4);
        CHECK.due("trim(1, 99)", x.trim(1, 99), 0);
        CHECK.due("none is lit by it", x.count(4), 4);
        CHECK.due("trim(2, 0)", x.trim(2, 0), 9);
        CHECK.due("lit", x.count(4), 0);
        x.breaks(2);
        CHECK.due("a broken one too: trim(2, 8)", x.trim(2, 8), 0);
        CHECK.sentence("NONE (STATUS 1): not 0 to 99.");
        int[] wrong = {-1, 100, Integer.MAX_VALUE, Integer.MIN_VALUE};
        for (int i = 0; i < wrong.length; i++) {
            CHECK.due("trim(1, " + wrong[i] + ")", x.trim(1, wrong[i]), -1);
            CHECK.due("STATUS 1", x.count(15), i + 1);
        }
        CHECK.due("oil stays", x.lamp(1, 1), 99);
        CHECK.due("acts", x.count(11), 8);
        CHECK.noSuch("trim(3, 100)", () -> x.trim(3, 100));
    }

    private static void broken() {
        CHECK.sentence("one BREAKS (it and its TWIN aren't LIT, and can't be any more);");
        TwinLamps x = Check.street(COUPLE + "lamp 0 9;wants 1;");
        x.hours(1);
        CHECK.due("breaks(1)", x.breaks(1), true);
        CHECK.due("lit", x.count(4), 4);
        CHECK.due("then(1)", x.then(1), 4);
        CHECK.due("flick(0)", x.flick(0), -1);
        x.trim(1, 50);
        CHECK.due("oil doesn't mend it", x.then(1), 4);
        CHECK.due("breaks(2), alone", x.breaks(2), true);
        CHECK.due("lit", x.count(4), 0);
        CHECK.sentence("BREAKS: true. False (STATUS 1): it is BROKEN already.");
        CHECK.due("breaks(1)", x.breaks(1), false);
        CHECK.due("STATUS 1", x.count(15), 2);
        CHECK.due("acts", x.count(11), 4);
        CHECK.due("breaks(0), whose twin is broken", x.breaks(0), true);
        CHECK.due("broken", x.count(5), 7);
        x.undo();
        CHECK.due("one is left", x.count(5), 6);
        CHECK.due("breaks(0) anew", x.breaks(0), true);
    }

    private static void given() {
        CHECK.sentence("one is GIVEN to another HOUSE;");
        TwinLamps x = Check.street("home 0 0;".repeat(8) + "lamp 0 9;lamp 3 9;twins 0 1;wants house=7;");
        x.flick(0);
        CHECK.due("give(0, 7)", x.give(0, 7), 0);
        CHECK.due("lamps of 0", x.house(0, 3), 0);
        CHECK.due("lamps of 7", x.house(7, 3), 1);
        CHECK.due("its twin stays", x.lamp(0, 2), 1);
        CHECK.due("lit as it was", x.count(4), 3);
        CHECK.due("wanted by another one", x.lamp(0, 5), 1);
        CHECK.due("to the house of its twin", x.give(0, 3), 7);
        CHECK.due("happy", x.count(8), 3);
        CHECK.sentence("GIVEN: the HOUSE as it was. NONE (STATUS 1): it is in it.");
        CHECK.due("give(0, 3)", x.give(0, 3), -1);
        CHECK.due("give(1, 3)", x.give(1, 3), -1);
        CHECK.due("STATUS 1", x.count(15), 2);
        CHECK.due("acts", x.count(11), 3);
        x.breaks(1);
        CHECK.due("a broken one too", x.give(1, 0), 3);
        CHECK.sentence("NoSuchElementException (ahead): no such LAMP, HOUSE.");
        CHECK.noSuch("give(2, 0)", () -> x.give(2, 0));
        CHECK.noSuch("give(-1, 0)", () -> x.give(-1, 0));
        CHECK.noSuch("give(0, 8)", () -> x.give(0, 8));
        CHECK.noSuch("give(0, -1)", () -> x.give(0, -1));
        CHECK.noSuch("give(2, 8)", () -> x.give(2, 8));
        CHECK.due("STATUS 1 stays", x.count(15), 2);
    }

    private static void otherHours() {
        CHECK.sentence("a HOUSE WAKES, SLEEPS in other hours.");
        TwinLamps x = Check.street("home 23 22;home 0 0;");
        CHECK.sentence("WAKES, SLEEPS become others: 24 by WAKES as it was, and SLEEPS.");
        CHECK.due("sleep(0, 0, 23)", x.sleep(0, 0, 23), 574);
        CHECK.due("sleep(0, 23, 0)", x.sleep(0, 23, 0), 23);
        CHECK.due("sleep(0, 23, 23)", x.sleep(0, 23, 23), 552);
        CHECK.due("sleep(0, 5, 6)", x.sleep(0, 5, 6), 575);
        CHECK.due("sleep(1, 1, 2)", x.sleep(1, 1, 2), 0);
        CHECK.due("wakes", x.house(0, 1), 5);
        CHECK.due("sleeps", x.house(0, 2), 6);
        CHECK.due("the other one", x.house(1, 1) * 24 + x.house(1, 2), 26);
        CHECK.due("awake at 0", x.count(10), 0);
        CHECK.sentence("NONE (STATUS 1): not 0 to 23.");
        int[] wrong = {-1, 24, Integer.MAX_VALUE, Integer.MIN_VALUE};
        for (int i = 0; i < wrong.length; i++) {
            CHECK.due("sleep(0, " + wrong[i] + ", 7)", x.sleep(0, wrong[i], 7), -1);
            CHECK.due("sleep(0, 7, " + wrong[i] + ")", x.sleep(0, 7, wrong[i]), -1);
            CHECK.due("STATUS 1", x.count(15), 2 * i + 2);
        }
        CHECK.due("sleep(0, 24, 24), refused once", x.sleep(0, 24, 24), -1);
        CHECK.due("STATUS 1", x.count(15), 9);
        CHECK.due("hours stay", x.house(0, 1) * 24 + x.house(0, 2), 126);
        CHECK.due("acts", x.count(11), 5);
        CHECK.noSuch("sleep(2, 24, 24)", () -> x.sleep(2, 24, 24));
        CHECK.due("STATUS 1 stays", x.count(15), 9);
    }

    private static void undoneOneByOne() {
        CHECK.sentence("They are UNDONE, the last one first.");
        TwinLamps x = Check.street("home 5 6;home 0 0;lamp 0 9;lamp 1 3;twins 0 1;lamp 0 4;wants hour=1;");
        x.hours(2);
        x.flick(2);
        x.flick(0);
        x.flick(1);
        x.trim(1, 0);
        x.give(0, 1);
        x.sleep(1, 3, 4);
        x.breaks(2);
        CHECK.due("dark at last", x.count(4), 0);
        x.undo();
        CHECK.due("breaks: broken", x.count(5), 0);
        CHECK.due("breaks: lit", x.count(4), 4);
        x.undo();
        CHECK.due("sleep: its hours", x.house(1, 1) * 24 + x.house(1, 2), 0);
        x.undo();
        CHECK.due("give: house", x.lamp(0, 0), 0);
        x.undo();
        CHECK.due("trim: oil", x.lamp(1, 1), 2);
        CHECK.due("trim: lit", x.count(4), 7);
        x.undo();
        CHECK.due("flick of 1: dark, and its twin", x.count(4), 4);
        x.undo();
        CHECK.due("flick of 0: lit, and its twin", x.count(4), 7);
        x.undo();
        CHECK.due("flick of 2: dark", x.count(4), 3);
        CHECK.due("acts", x.count(11), 1);
        x.undo();
        CHECK.due("hours: hour", x.count(3), 0);
        CHECK.due("hours: oil", x.count(6), 16);
        CHECK.due("hours: lit", x.count(4), 0);
    }

    private static void undoneWithout() {
        CHECK.sentence("The last ACT is UNDONE: how many are left. NONE: there is none.");
        TwinLamps x = Check.street(COUPLE + "wants 1;");
        CHECK.due("undo()", x.undo(), -1);
        x.hours(5);
        x.flick(0);
        CHECK.due("dark", x.count(4), 0);
        x.hours(0);
        x.give(0, 0);
        CHECK.due("undo(), what was refused is no act", x.undo(), 1);
        CHECK.due("lit again", x.count(4), 3);
        CHECK.due("undo()", x.undo(), 0);
        CHECK.due("oil", x.count(6), 18);
        CHECK.due("hour", x.count(3), 0);
        CHECK.due("undo()", x.undo(), -1);
        CHECK.due("no STATUS counts it", x.count(15), 2);
    }

    private static void status() {
        CHECK.sentence("STATUS: how many calls were refused: 0 TEXTS with a FAULT, 1 ACTS, 2 what is SEEN"
            + " (not counted where an exception tells it).");
        TwinLamps x = Check.street(COUPLE);
        x.street(Check.feed(x, "!"));
        CHECK.illegal("street(-1)", () -> x.street(-1));
        CHECK.illegal("street(99)", () -> x.street(99));
        int[] refused = {x.hours(0), x.trim(0, 100), x.give(0, 0), x.sleep(0, 24, 0), x.see(0, 0, true), x.see(1, 49, true)};
        for (int one : refused) {
            CHECK.due("refused", one, -1);
        }
        x.breaks(0);
        x.breaks(0);
        x.flick(1);
        CHECK.noSuch("flick(9)", () -> x.flick(9));
        CHECK.noSuch("sleep(9, 24, 0)", () -> x.sleep(9, 24, 0));
        CHECK.noSuch("see(9, 0, true)", () -> x.see(9, 0, true));
        CHECK.illegal("then(0)", () -> x.then(0));
        CHECK.illegal("game(0, 1, 0)", () -> x.game(0, 1, 0));
        CHECK.due("STATUS 0", x.count(14), 1);
        CHECK.due("STATUS 1", x.count(15), 6);
        CHECK.due("STATUS 2", x.count(16), 2);
        x.undo();
        x.forget();
        CHECK.due("no undo takes from STATUS 1", x.count(15), 6);
        CHECK.due("no forget() takes from STATUS 2", x.count(16), 2);
    }
}
