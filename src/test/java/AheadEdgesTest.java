/** Part 3 of the document and promises 15 to 28, sentence by sentence: what stands at an edge, and what beyond it. */
final class AheadEdgesTest {
    private static final Check CHECK = new Check();
    private static final int[] FAR = {Integer.MIN_VALUE, Integer.MAX_VALUE, -2};
    private static final String HOUSES = "home 0 0;".repeat(8);

    public static void main(String[] args) {
        then();
        burnt();
        shining();
        soonest();
        busiestHour();
        busiestWithoutAny();
        lasts();
        grief();
        quarrels();
        nothingChanges();
        plunged();
        groups();
        fewestTwins();
        aloneAndHappy();
        strife();
        strifeOfSleepers();
        strifeAsRulesAre();
        betterTwins();
        betterTwinsThatAreCast();
        firstRow();
        treaties();
        treatiesOfADay();
        treatiesOfLikeOnes();
        funds();
        signals();
        CHECK.end();
    }

    // ---- hours that go by

    private static void then() {
        CHECK.sentence("(If only HOURS go by, from now on:) THEN: LAMPS that are LIT IN the HOUR so many from now"
            + " (1 to 96, the next one 1).");
        TwinLamps x = Check.street("home 0 0;" + "lamp 0 99;".repeat(12) + "wants hour=0 or hour=23;");
        for (int hours = 1; hours <= 96; hours++) {
            CHECK.due("then(" + hours + ")", x.then(hours), hours % 24 < 2 ? 0xFFF : 0);
        }
        x.hours(1);
        CHECK.due("then(1) at 1", x.then(1), 0);
        CHECK.due("then(23) at 1", x.then(23), 0xFFF);
        CHECK.due("then(95) at 1", x.then(95), 0xFFF);
        CHECK.due("then(96) at 1", x.then(96), 0xFFF);
        CHECK.sentence("THEN, LAMPS as bits. IllegalArgumentException: not 1 to 96.");
        CHECK.illegal("then(0)", () -> x.then(0));
        CHECK.illegal("then(-1)", () -> x.then(-1));
        CHECK.illegal("then(97)", () -> x.then(97));
        for (int far : FAR) {
            CHECK.illegal("then(far)", () -> x.then(far));
        }
        TwinLamps y = Check.street("home 5 6;lamp 0 9;lamp 0 9;lamp 0 9;twins 0 2;");
        y.flick(2);
        CHECK.due("lit by hand", y.then(1), 5);
        CHECK.due("without lamps", new TwinLamps().then(96), 0);
    }

    private static void burnt() {
        CHECK.sentence("BURNT by a LAMP in so many HOURS (0 to 96).");
        TwinLamps x = Check.street("home 0 0;lamp 0 99;lamp 0 95;lamp 0 0;lamp 0 96;wants 1;");
        CHECK.due("burnt(0, 0)", x.burnt(0, 0), 0);
        CHECK.due("burnt(0, 1)", x.burnt(0, 1), 1);
        CHECK.due("burnt(0, 96)", x.burnt(0, 96), 96);
        CHECK.due("burnt(1, 95)", x.burnt(1, 95), 95);
        CHECK.due("burnt(1, 96)", x.burnt(1, 96), 95);
        CHECK.due("burnt(2, 96)", x.burnt(2, 96), 0);
        CHECK.due("burnt(3, 96)", x.burnt(3, 96), 96);
        CHECK.sentence("BURNT. IllegalArgumentException (behind NoSuchElementException): not 0 to 96.");
        CHECK.illegal("burnt(0, -1)", () -> x.burnt(0, -1));
        CHECK.illegal("burnt(0, 97)", () -> x.burnt(0, 97));
        CHECK.noSuch("burnt(4, -1)", () -> x.burnt(4, -1));
        CHECK.noSuch("burnt(-1, 97)", () -> x.burnt(-1, 97));
        for (int far : FAR) {
            CHECK.illegal("burnt(0, far)", () -> x.burnt(0, far));
        }
    }

    private static void shining() {
        CHECK.sentence("In how many of so many HOURS (0 to 96) a LAMP is LIT IN them.");
        TwinLamps x = Check.street("home 0 0;lamp 0 99;lamp 0 0;lamp 0 2;wants hour=23 or hour=0;");
        CHECK.due("shining(0, 0)", x.shining(0, 0), 0);
        CHECK.due("shining(0, 1)", x.shining(0, 1), 1);
        CHECK.due("shining(0, 23)", x.shining(0, 23), 1);
        CHECK.due("shining(0, 24)", x.shining(0, 24), 2);
        CHECK.due("shining(0, 95)", x.shining(0, 95), 7);
        CHECK.due("shining(0, 96)", x.shining(0, 96), 8);
        CHECK.due("shining(1, 96)", x.shining(1, 96), 0);
        CHECK.due("shining(2, 96)", x.shining(2, 96), 2);
        CHECK.sentence("IllegalArgumentException (behind NoSuchElementException): not 0 to 96.");
        CHECK.illegal("shining(0, -1)", () -> x.shining(0, -1));
        CHECK.illegal("shining(0, 97)", () -> x.shining(0, 97));
        CHECK.noSuch("shining(3, -1)", () -> x.shining(3, -1));
        CHECK.noSuch("shining(-1, 97)", () -> x.shining(-1, 97));
        for (int far : FAR) {
            CHECK.illegal("shining(0, far)", () -> x.shining(0, far));
        }
    }

    private static void soonest() {
        CHECK.sentence("IN which HOUR from now (1 to 96) a LAMP is LIT first; NONE: none.");
        TwinLamps x = Check.street("home 0 0;home 5 6;lamp 0 99;lamp 0 0;lamp 1 9;lamp 1 9;twins 0 2;wants hour=23;");
        CHECK.due("soonest(0)", x.soonest(0), 24);
        CHECK.due("soonest(1), without oil", x.soonest(1), -1);
        CHECK.due("soonest(2), by its twin", x.soonest(2), 24);
        CHECK.due("soonest(3), whose house sleeps", x.soonest(3), -1);
        x.hours(23);
        CHECK.due("soonest(0) at 23", x.soonest(0), 1);
        x.hours(1);
        CHECK.due("soonest(0) at 24", x.soonest(0), 24);
        x.flick(3);
        CHECK.due("soonest(3), lit by hand", x.soonest(3), 1);
        x.flick(0);
        CHECK.due("soonest(0), lit by hand, but put out at once", x.soonest(0), 24);
    }

    private static void busiestHour() {
        CHECK.sentence("The hour of the day in which HOUSES that are AWAKE WANT most LAMPS LIT (what 0; of like ones the first;"
            + " NONE: never any), how many (1; 0).");
        TwinLamps x = Check.street("home 0 0;tower 12 18;" + "lamp 1 9;".repeat(6) + "lamp 0 0;wants hour=23 or house=1;");
        CHECK.due("busiest(0), who sleeps isn't asked", x.busiest(0), 12);
        CHECK.due("busiest(1)", x.busiest(1), 6);
        x.sleep(1, 17, 18);
        CHECK.due("busiest(0)", x.busiest(0), 17);
        x.sleep(1, 23, 0);
        CHECK.due("busiest(0), the last hour", x.busiest(0), 23);
        CHECK.due("busiest(1), without oil too", x.busiest(1), 7);
        x.sleep(1, 0, 23);
        CHECK.due("busiest(0), of like ones the first", x.busiest(0), 0);
        x.sleep(1, 5, 5);
        CHECK.due("busiest(0), more at 23", x.busiest(0), 23);
        x.breaks(0);
        CHECK.due("busiest(1), broken or not", x.busiest(1), 7);
        TwinLamps y = Check.street("home 9 10;" + "lamp 0 0;".repeat(12) + "wants 1;");
        CHECK.due("busiest(0), one hour", y.busiest(0), 9);
        CHECK.due("busiest(1), all lamps", y.busiest(1), 12);
    }

    private static void busiestWithoutAny() {
        CHECK.sentence("NONE: never any), how many (1; 0).");
        TwinLamps x = Check.street("tower 6 18;lamp 0 9;");
        CHECK.due("busiest(0)", x.busiest(0), -1);
        CHECK.due("busiest(1)", x.busiest(1), 0);
        TwinLamps late = Check.street("home 0 0;home 5 2;lamp 0 9;lamp 1 9;wants 23<hour;");
        CHECK.due("busiest(0), no hour of the day is 24", late.busiest(0), -1);
        CHECK.due("busiest(1), no hour of the day is 24", late.busiest(1), 0);
        TwinLamps none = new TwinLamps();
        CHECK.due("busiest(0) without houses", none.busiest(0), -1);
        CHECK.due("busiest(1) without houses", none.busiest(1), 0);
        CHECK.sentence("NoSuchElementException: another what.");
        CHECK.noSuch("busiest(-1)", () -> x.busiest(-1));
        CHECK.noSuch("busiest(2)", () -> x.busiest(2));
        for (int far : FAR) {
            CHECK.noSuch("busiest(far)", () -> none.busiest(far));
        }
    }

    private static void lasts() {
        CHECK.sentence("LASTS: in how many HOURS a LAMP's OIL is 0 (0 to 96); none.");
        TwinLamps x = Check.street("home 0 0;lamp 0 0;lamp 0 1;lamp 0 95;lamp 0 96;lamp 0 97;lamp 0 99;lamp 0 3;lamp 0 5;"
                + "twins 6 7;wants 1;");
        int[] due = {0, 1, 95, 96, -1, -1, 3, -1};
        for (int lamp = 0; lamp < due.length; lamp++) {
            CHECK.due("lasts(" + lamp + ")", x.lasts(lamp), due[lamp]);
        }
        CHECK.sentence("LASTS; NONE: none.");
        TwinLamps y = Check.street("home 0 0;lamp 0 5;lamp 0 4;wants hour=23;");
        CHECK.due("an hour a day, five days", y.lasts(0), -1);
        CHECK.due("an hour a day, four days", y.lasts(1), 96);
        y.breaks(1);
        CHECK.due("broken", y.lasts(1), -1);
        y.trim(1, 0);
        CHECK.due("broken, without oil", y.lasts(1), 0);
    }

    private static void grief() {
        CHECK.sentence("GRIEF: how many COMPLAINTS there are in so many HOURS (0 to 96) of a HOUSE.");
        TwinLamps x = Check.street("home 0 0;home 23 0;home 0 0;lamp 0 0;lamp 0 0;lamp 1 0;lamp 0 99;wants 1;");
        CHECK.due("grief(0, 0)", x.grief(0, 0), 0);
        CHECK.due("grief(0, 1)", x.grief(0, 1), 2);
        CHECK.due("grief(0, 96)", x.grief(0, 96), 192);
        CHECK.due("grief(1, 23)", x.grief(1, 23), 0);
        CHECK.due("grief(1, 24)", x.grief(1, 24), 1);
        CHECK.due("grief(1, 95)", x.grief(1, 95), 3);
        CHECK.due("grief(1, 96)", x.grief(1, 96), 4);
        CHECK.due("grief(2, 96) without lamps", x.grief(2, 96), 0);
        CHECK.sentence("GRIEF. IllegalArgumentException (behind NoSuchElementException): not 0 to 96.");
        CHECK.illegal("grief(0, -1)", () -> x.grief(0, -1));
        CHECK.illegal("grief(0, 97)", () -> x.grief(0, 97));
        CHECK.noSuch("grief(3, -1)", () -> x.grief(3, -1));
        CHECK.noSuch("grief(-1, 97)", () -> x.grief(-1, 97));
        for (int far : FAR) {
            CHECK.illegal("grief(0, far)", () -> x.grief(0, far));
        }
    }

    private static void quarrels() {
        CHECK.sentence("QUARRELS in so many HOURS (0 to 96), of all.");
        TwinLamps x = Check.street("home 0 0;home 23 0;home 23 0;lamp 1 9;lamp 0 9;lamp 2 9;lamp 0 9;twins 0 1;twins 2 3;wants house;");
        CHECK.due("quarrels(0)", x.quarrels(0), 0);
        CHECK.due("quarrels(23)", x.quarrels(23), 0);
        CHECK.due("quarrels(24)", x.quarrels(24), 2);
        CHECK.due("quarrels(95)", x.quarrels(95), 6);
        CHECK.due("quarrels(96)", x.quarrels(96), 8);
        CHECK.sentence("QUARRELS. IllegalArgumentException: not 0 to 96.");
        CHECK.illegal("quarrels(-1)", () -> x.quarrels(-1));
        CHECK.illegal("quarrels(97)", () -> x.quarrels(97));
        for (int far : FAR) {
            CHECK.illegal("quarrels(far)", () -> x.quarrels(far));
        }
        CHECK.due("without houses", new TwinLamps().quarrels(96), 0);
    }

    private static void nothingChanges() {
        CHECK.sentence("(If only HOURS go by, from now on:)");
        TwinLamps x = Check.street("home 0 0;home 0 0;lamp 0 9;lamp 1 9;twins 0 1;wants hour=1;");
        x.see(0, 1, true);
        x.then(96);
        x.burnt(0, 96);
        x.shining(0, 96);
        x.soonest(0);
        x.lasts(0);
        x.grief(0, 96);
        x.quarrels(96);
        x.better(-1);
        x.treaty(0);
        x.fund(0);
        x.whose(0);
        x.look(0, 0);
        x.winter(1, 96, 0);
        x.game(0, 1, 0);
        CHECK.due("hour, lit, broken, acts", x.count(3) + x.count(4) + x.count(5) + x.count(11), 0);
        CHECK.due("oil", x.count(6), 18);
        CHECK.due("its hours", x.house(0, 1) * 24 + x.house(0, 2), 0);
        CHECK.due("seen", x.count(12), 1);
    }

    // ---- houses and twins

    private static void plunged() {
        CHECK.sentence("PLUNGED by a HOUSE: HOUSES in which there is a TWIN of a LAMP of it (not itself,"
            + " but if two TWINS are in it), as bits.");
        TwinLamps x = Check.street(HOUSES + "lamp 0 1;lamp 7 1;lamp 0 1;lamp 3 1;lamp 5 1;lamp 5 1;lamp 6 1;lamp 0 1;lamp 7 1;"
                + "twins 0 1;twins 2 3;twins 4 5;twins 7 8;");
        int[] due = {0x88, 0, 0, 1, 0, 32, 0, 1};
        for (int house = 0; house < due.length; house++) {
            CHECK.due("house(" + house + ", 4)", x.house(house, 4), due[house]);
        }
        x.give(8, 0);
        CHECK.due("two twins in it, others elsewhere", x.house(0, 4), 0x89);
        x.breaks(4);
        CHECK.due("broken twins too", x.house(5, 4), 32);
    }

    private static void groups() {
        CHECK.sentence("JOINED are HOUSES by TWINS, one behind the other: how many groups;");
        TwinLamps x = Check.street(HOUSES + "lamp 7 1;lamp 6 1;lamp 6 1;lamp 5 1;lamp 5 1;lamp 4 1;lamp 4 1;lamp 3 1;"
                + "lamp 3 1;lamp 2 1;lamp 2 1;lamp 1 1;twins 0 1;twins 2 3;twins 4 5;twins 6 7;twins 8 9;twins 10 11;");
        CHECK.due("seven in a row, one alone", x.count(9), 2);
        x.give(0, 0);
        CHECK.due("the other end alone", x.count(9), 2);
        x.give(5, 7);
        CHECK.due("0 6 5 7, and 4 3 2 1", x.count(9), 2);
        x.give(6, 7);
        CHECK.due("all but 4", x.count(9), 2);
        String three = "home 0 0;home 0 0;home 0 0;lamp 2 1;lamp 0 1;lamp 1 1;lamp 2 1;";
        CHECK.due("all three, one behind the other", Check.street(three + "twins 0 1;twins 2 3;").count(9), 1);
        CHECK.due("eight alone", Check.street(HOUSES).count(9), 8);
        CHECK.due("twins in one house join none", Check.street(HOUSES + "lamp 1 1;lamp 1 1;twins 0 1;").count(9), 8);
        CHECK.due("without houses", new TwinLamps().count(9), 0);
    }

    private static void fewestTwins() {
        CHECK.sentence("the fewest TWINS from a HOUSE to another one; none.");
        TwinLamps x = Check.street(HOUSES + "lamp 7 1;lamp 0 1;lamp 0 1;lamp 5 1;lamp 5 1;lamp 1 1;lamp 1 1;lamp 6 1;"
                + "lamp 6 1;lamp 2 1;lamp 2 1;lamp 4 1;twins 0 1;twins 2 3;twins 4 5;twins 6 7;twins 8 9;twins 10 11;");
        int[] row = {7, 0, 5, 1, 6, 2, 4};
        for (int from = 0; from < row.length; from++) {
            for (int to = 0; to < row.length; to++) {
                CHECK.due("joined(" + row[from] + ", " + row[to] + ")", x.joined(row[from], row[to]), Math.abs(from - to));
            }
            CHECK.due("joined(3, " + row[from] + ")", x.joined(3, row[from]), -1);
            CHECK.due("joined(" + row[from] + ", 3)", x.joined(row[from], 3), -1);
        }
        x.give(11, 7);
        CHECK.due("a ring of six: joined(7, 2)", x.joined(7, 2), 1);
        CHECK.due("a ring of six: joined(7, 1)", x.joined(7, 1), 3);
        CHECK.sentence("JOINED: the fewest TWINS (0 of itself); NONE: none.");
        CHECK.due("joined(3, 3) without lamps", x.joined(3, 3), 0);
        CHECK.due("joined(7, 7)", x.joined(7, 7), 0);
        CHECK.noSuch("joined(8, 0)", () -> x.joined(8, 0));
        CHECK.noSuch("joined(0, 8)", () -> x.joined(0, 8));
        CHECK.noSuch("joined(8, 8)", () -> x.joined(8, 8));
        CHECK.noSuch("joined(-1, -1)", () -> x.joined(-1, -1));
    }

    private static void aloneAndHappy() {
        CHECK.sentence("ALONE: singletons, as bits; HAPPY: LAMPS whose TWIN is in the same HOUSE, as bits.");
        TwinLamps x = Check.street("home 0 0;home 0 0;lamp 0 1;lamp 0 1;lamp 0 1;lamp 1 1;lamp 1 1;lamp 1 1;twins 5 3;twins 0 4;");
        CHECK.due("alone", x.count(7), 6);
        CHECK.due("happy", x.count(8), 0x28);
        x.breaks(3);
        CHECK.due("broken ones may be happy", x.count(8), 0x28);
        x.give(0, 1);
        CHECK.due("all four", x.count(8), 0x39);
        x.give(1, 1);
        CHECK.due("who is alone isn't", x.count(8), 0x39);
    }

    // ---- strife and better twins

    private static void strife() {
        CHECK.sentence("STRIFE of two LAMPS: in how many of the 24 hours of a day (as rules are now, OIL as it is) their HOUSES,"
            + " both being AWAKE, WANT otherwise,");
        TwinLamps x = Check.street("home 0 0;home 0 0;lamp 0 1;lamp 1 1;lamp 1 1;wants house;");
        CHECK.due("all day", x.strife(0, 1), 24);
        CHECK.due("never", x.strife(1, 2), 0);
        x.sleep(1, 23, 0);
        CHECK.due("the last hour", x.strife(0, 1), 1);
        x.sleep(1, 0, 1);
        CHECK.due("the first hour", x.strife(0, 1), 1);
        TwinLamps y = Check.street("home 0 0;home 4 10;lamp 0 1;lamp 1 1;wants house=0 and hour=4 or house=1 and hour=9;");
        CHECK.due("two hours, one wanted by each", y.strife(0, 1), 2);
        CHECK.sentence("STRIFE (0 of one and itself).");
        CHECK.due("strife(0, 0)", y.strife(0, 0), 0);
        CHECK.due("strife(1, 1)", y.strife(1, 1), 0);
        CHECK.noSuch("strife(2, 2)", () -> y.strife(2, 2));
        CHECK.noSuch("strife(-1, 0)", () -> y.strife(-1, 0));
    }

    private static void strifeOfSleepers() {
        CHECK.sentence("or one is AWAKE, and WANTS it LIT, the other one not AWAKE.");
        TwinLamps x = Check.street("tower 2 6;tower 4 9;lamp 0 1;lamp 1 1;wants 1;");
        CHECK.due("two hours of the one, three of the other", x.strife(0, 1), 5);
        CHECK.due("the same, the other way round", x.strife(1, 0), 5);
        TwinLamps y = Check.street("tower 2 6;tower 4 9;lamp 0 1;lamp 1 1;wants not awake;");
        CHECK.due("who sleeps isn't asked", y.strife(0, 1), 0);
        TwinLamps z = Check.street("tower 9 10;tower 9 10;lamp 0 1;lamp 1 1;wants house and hour<9;");
        CHECK.due("both asleep", z.strife(0, 1), 0);
        TwinLamps w = Check.street("tower 2 6;tower 4 9;lamp 0 1;lamp 1 1;wants house;");
        CHECK.due("the first one wants dark: 4, 5 and 6, 7, 8", w.strife(0, 1), 5);
        w.sleep(1, 4, 5);
        CHECK.due("dark wanted by who is awake alone is none", w.strife(0, 1), 1);
    }

    private static void strifeAsRulesAre() {
        CHECK.sentence("(as rules are now, OIL as it is)");
        TwinLamps x = Check.street("home 0 0;home 0 0;lamp 0 5;lamp 1 9;twins 0 1;wants hour<oil;");
        CHECK.due("5 and 9", x.strife(0, 1), 4);
        x.hours(20);
        CHECK.due("at 20, what is burnt counts", x.strife(0, 1), Math.abs(x.lamp(0, 1) - x.lamp(1, 1)));
        CHECK.due("and is alike of both", x.strife(0, 1), 4);
        x.trim(0, 99);
        x.trim(1, 24);
        CHECK.due("99 and 24 are alike", x.strife(0, 1), 0);
        x.trim(1, 0);
        CHECK.due("99 and 0", x.strife(0, 1), 24);
        x.breaks(0);
        CHECK.due("broken or not", x.strife(0, 1), 24);
    }

    private static void betterTwins() {
        CHECK.sentence("BETTER TWINS: were all LAMPS that have a TWIN (neither of both BROKEN) cast anew among them two by two:"
            + " the least STRIFE, all together;");
        TwinLamps x = byOil(new int[] {24, 0, 6, 18, 12, 14, 23, 1, 7, 17, 11, 15},
            "twins 0 1;twins 2 3;twins 4 5;twins 6 7;twins 8 9;twins 10 11;");
        CHECK.due("six couples", x.better(-1), 1 + 1 + 1 + 1 + 1 + 1);
        int[] due = {6, 7, 8, 9, 10, 11, 0, 1, 2, 3, 4, 5};
        for (int lamp = 0; lamp < 12; lamp++) {
            CHECK.due("better(" + lamp + ")", x.better(lamp), due[lamp]);
        }
        CHECK.due("twins stay", x.lamp(0, 2), 1);
        CHECK.sentence("NoSuchElementException: no such LAMP.");
        CHECK.noSuch("better(12)", () -> x.better(12));
        CHECK.noSuch("better(-2)", () -> x.better(-2));
        for (int far : FAR) {
            CHECK.noSuch("better(far)", () -> x.better(far));
        }
        CHECK.noSuch("better(0) without lamps", () -> new TwinLamps().better(0));
        CHECK.due("better(-1) without lamps", new TwinLamps().better(-1), 0);
    }

    private static void betterTwinsThatAreCast() {
        CHECK.sentence("STRIFE (lamp NONE), the TWIN of a LAMP then (NONE: it has none, or they are BROKEN).");
        TwinLamps x = byOil(new int[] {0, 0, 20, 20, 20, 10, 9, 9}, "twins 0 2;twins 1 3;twins 6 5;");
        CHECK.due("least strife: 0, 0 and 1", x.better(-1), 1);
        CHECK.due("better(4), alone", x.better(4), -1);
        CHECK.due("better(7), alone, and not cast", x.better(7), -1);
        CHECK.due("better(5)", x.better(5), 6);
        x.breaks(3);
        CHECK.due("without 1 and 3: 9 and 10", x.better(-1), 20 - 1);
        CHECK.due("better(3), broken", x.better(3), -1);
        CHECK.due("better(1), whose twin is broken", x.better(1), -1);
        CHECK.due("better(0)", x.better(0), 6);
        x.breaks(0);
        x.breaks(5);
        CHECK.due("none is left", x.better(-1), 0);
        CHECK.due("better(2)", x.better(2), -1);
        TwinLamps firstAlone = byOil(new int[] {3, 9, 8, 1}, "twins 1 2;");
        CHECK.due("0, alone, isn't cast: least strife", firstAlone.better(-1), 1);
        CHECK.due("better(0), alone", firstAlone.better(0), -1);
        CHECK.due("better(1)", firstAlone.better(1), 2);
        CHECK.due("better(3), alone", firstAlone.better(3), -1);
        TwinLamps one = byOil(new int[] {0, 24}, "twins 0 1;");
        CHECK.due("one couple stays", one.better(-1), 24);
        CHECK.due("better(0) of one couple", one.better(0), 1);
    }

    private static void firstRow() {
        CHECK.sentence("whose TWIN a LAMP would be: of like ones the first row"
            + " (the least LAMP first, with the least one that may be).");
        // 0 never, 1 at 0 and 1, 2 at 0, 3 at 1: 0 with 1 costs 4 in all, with 2 or 3 each 2
        TwinLamps x = Check.street("home 0 0;lamp 0 1;lamp 0 2;lamp 0 3;lamp 0 4;twins 0 1;twins 2 3;"
                + "wants hour=0 and (oil=2 or oil=3) or hour=1 and (oil=2 or oil=4);");
        CHECK.due("least strife", x.better(-1), 2);
        CHECK.due("better(0), not 1, not 3", x.better(0), 2);
        CHECK.due("better(1)", x.better(1), 3);
        TwinLamps y = byOil(new int[] {9, 2, 2, 2, 2, 9}, "twins 0 1;twins 2 3;twins 4 5;");
        int[] due = {5, 2, 1, 4, 3, 0};
        TwinLamps z = byOil(new int[] {7, 7, 7, 7, 7, 7}, "twins 0 5;twins 1 4;twins 2 3;");
        int[] allLike = {1, 0, 3, 2, 5, 4};
        for (int lamp = 0; lamp < 6; lamp++) {
            CHECK.due("the rest is like: better(" + lamp + ")", y.better(lamp), due[lamp]);
            CHECK.due("all are like: better(" + lamp + ")", z.better(lamp), allLike[lamp]);
        }
    }

    /** Lamps whose strife is how far their oil (at most 24 counts) lies apart. */
    private static TwinLamps byOil(int[] oil, String twins) {
        StringBuilder text = new StringBuilder("home 0 0;");
        for (int one : oil) {
            text.append("lamp 0 ").append(one).append(';');
        }
        return Check.street(text.append(twins).append("wants hour<oil;").toString());
    }

    // ---- treaties, funds, signals

    private static void treaties() {
        CHECK.sentence("A TREATY of a HOUSE: of its SLEEPS (0 to 23; WAKES as it is) that by which all COMPLAINTS of all HOUSES"
            + " in 24 HOURS are fewest, if fewer than now");
        CHECK.due("awake at 22 alone: 23", Check.street("home 22 22;lamp 0 0;wants 1-(hour=22);").treaty(0), 23);
        CHECK.due("awake at 23 alone: 0", Check.street("home 23 23;lamp 0 0;wants 1-(hour=23);").treaty(0), 0);
        CHECK.due("not fewer than now", Check.street("home 23 0;lamp 0 0;wants 1-(hour=23);").treaty(0), -1);
        CHECK.due("as many as now", Check.street("home 22 23;lamp 0 0;wants 1;").treaty(0), -1);
        CHECK.due("one more than the fewest now", Check.street("home 21 23;lamp 0 0;wants 1;").treaty(0), 22);
        CHECK.due("none now", Check.street("home 0 0;lamp 0 0;wants 0;").treaty(0), -1);
        TwinLamps x = Check.street("home 0 0;home 0 0;lamp 1 99;lamp 0 99;twins 0 1;wants house;");
        CHECK.due("complaints of another one", x.treaty(0), 1);
        CHECK.due("or its own", x.treaty(1), 1);
        CHECK.due("its hours stay", x.house(0, 2), 0);
        CHECK.sentence("A TREATY: SLEEPS; NONE: none.");
        CHECK.due("a house without lamps", Check.street("home 0 0;home 0 0;lamp 0 0;wants 1;").treaty(1), -1);
        CHECK.noSuch("treaty(2)", () -> x.treaty(2));
        CHECK.noSuch("treaty(-1)", () -> x.treaty(-1));
    }

    /** Oil for 24 hours is enough, oil for 23 leaves a complaint in the last one. */
    private static void treatiesOfADay() {
        CHECK.sentence("in 24 HOURS are fewest,");
        CHECK.due("23 hours of oil", Check.street("home 5 5;lamp 0 23;wants 1;").treaty(0), 0);
        CHECK.due("24 hours of oil", Check.street("home 5 5;lamp 0 24;wants 1;").treaty(0), -1);
        TwinLamps x = Check.street("home 5 5;lamp 0 99;wants 1;");
        x.hours(30);
        x.trim(0, 23);
        CHECK.due("23 hours of oil, lit from 30 on, an hour of the day 6", x.treaty(0), -1);
        x.flick(0);
        CHECK.due("23 hours of oil, dark, who is awake at 5 alone has enough", x.treaty(0), 6);
        x.trim(0, 24);
        CHECK.due("24 hours of oil, from 30 on", x.treaty(0), -1);
    }

    private static void treatiesOfLikeOnes() {
        CHECK.sentence("(of like ones the least); none.");
        TwinLamps x = Check.street("home 12 12;lamp 0 0;wants hour=11;");
        CHECK.due("all but 12 are like", x.treaty(0), 0);
        x.sleep(0, 0, 0);
        CHECK.due("1 to 11 are like", x.treaty(0), 1);
        x.sleep(0, 0, 12);
        CHECK.due("1 to 11 are like, from 12", x.treaty(0), 1);
        x.sleep(0, 0, 11);
        CHECK.due("one of the like ones is now's", x.treaty(0), -1);
    }

    private static void funds() {
        CHECK.sentence("A FUND: HOUSES that have a LAMP of which, and of its TWIN, none is BROKEN,"
            + " but would have none more, did a told LAMP BREAK, as bits.");
        TwinLamps x = Check.street(HOUSES + "lamp 0 0;lamp 7 0;lamp 7 1;lamp 3 1;lamp 5 1;lamp 4 1;lamp 4 1;twins 0 1;twins 2 3;"
                + "twins 5 6;");
        CHECK.due("fund(0): 7 has another one", x.fund(0), 1);
        CHECK.due("fund(1)", x.fund(1), 1);
        CHECK.due("fund(2)", x.fund(2), 8);
        CHECK.due("fund(4), alone", x.fund(4), 32);
        CHECK.due("fund(5), both in one house", x.fund(5), 16);
        x.breaks(0);
        CHECK.due("fund(3): 7 has none other more", x.fund(3), 0x88);
        CHECK.due("fund(0), broken", x.fund(0), 0);
        CHECK.due("fund(1), whose twin is broken", x.fund(1), 0);
        CHECK.due("broken ones stay", x.count(5), 1);
        CHECK.sentence("A FUND, HOUSES as bits.");
        CHECK.noSuch("fund(7)", () -> x.fund(7));
        CHECK.noSuch("fund(-1)", () -> x.fund(-1));
    }

    private static void signals() {
        CHECK.sentence("SIGNALS for a set of LAMPS: the least n so that 2 to the power of n is as much as there are LAMPS in it,"
            + " or more (in so many rounds, some being LIT by hand in each, it comes out who is whose).");
        TwinLamps x = Check.street("home 0 0;" + "lamp 0 1;".repeat(12));
        int[] due = {0, 0, 1, 2, 2, 3, 3, 3, 3, 4, 4, 4, 4};
        for (int many = 0; many <= 12; many++) {
            CHECK.due("the first " + many, x.signals((1 << many) - 1), due[many]);
            CHECK.due("the last " + many, x.signals(0xFFF & -(1 << 12 - many)), due[many]);
        }
        CHECK.sentence("SIGNALS (0 of one LAMP or none). IllegalArgumentException: bits of LAMPS that there aren't.");
        CHECK.due("signals(1 << 11)", x.signals(1 << 11), 0);
        for (int bit = 12; bit < 32; bit++) {
            int set = 1 << bit;
            CHECK.illegal("signals(1 << " + bit + ")", () -> x.signals(set));
        }
        CHECK.illegal("signals(-1)", () -> x.signals(-1));
        TwinLamps two = Check.street("home 0 0;lamp 0 1;lamp 0 1;");
        CHECK.due("signals(3) of two", two.signals(3), 1);
        CHECK.illegal("signals(4) of two", () -> two.signals(4));
        CHECK.illegal("signals(7) of two", () -> two.signals(7));
        CHECK.due("signals(0) without lamps", new TwinLamps().signals(0), 0);
        CHECK.illegal("signals(1) without lamps", () -> new TwinLamps().signals(1));
    }
}
