/** Promises 15 to 22: what happens if only hours go by. */
final class AheadTest {
    private static final Check CHECK = new Check();

    public static void main(String[] args) {
        oneHouse();
        oneHouseLater();
        nothingChanges();
        quarrels();
        noQuarrels();
        sleepersDoNotComplain();
        oilAtOnce();
        busiest();
        wrongHours();
        wrongNumbers();
        CHECK.end();
    }

    private static TwinLamps threeHours() {
        return Check.street("home 0 0;tower 0 0;lamp 0 3;lamp 0 9;lamp 1 4;twins 0 1;"
                + "wants house=0 and (hour=1 or hour=2 or hour=5);");
    }

    /** The twins are lit in the hours 1, 2 and 5; then the first one's oil is gone. */
    private static void oneHouse() {
        TwinLamps x = threeHours();
        int[] hours = {1, 2, 3, 4, 5, 6, 7, 26, 27, 30, 96};
        int[] lit = {0, 3, 3, 0, 0, 3, 0, 0, 0, 0, 0};
        int[] burnt = {0, 1, 2, 2, 2, 3, 3, 3, 3, 3, 3};
        int[] grief = {0, 0, 0, 0, 0, 0, 0, 2, 4, 6, 12 + 6};
        for (int i = 0; i < hours.length; i++) {
            CHECK.due("then(" + hours[i] + ")", x.then(hours[i]), lit[i]);
            CHECK.due("burnt(0, " + hours[i] + ")", x.burnt(0, hours[i]), burnt[i]);
            CHECK.due("burnt(1, " + hours[i] + ")", x.burnt(1, hours[i]), burnt[i]);
            CHECK.due("shining(1, " + hours[i] + ")", x.shining(1, hours[i]), burnt[i]);
            CHECK.due("grief(0, " + hours[i] + ")", x.grief(0, hours[i]), grief[i]);
            CHECK.due("grief(1, " + hours[i] + ")", x.grief(1, hours[i]), 0);
            CHECK.due("quarrels(" + hours[i] + ")", x.quarrels(hours[i]), 0);
        }
        CHECK.due("burnt(0, 0)", x.burnt(0, 0), 0);
        CHECK.due("shining(0, 0)", x.shining(0, 0), 0);
        CHECK.due("grief(0, 0)", x.grief(0, 0), 0);
        CHECK.due("quarrels(0)", x.quarrels(0), 0);
        CHECK.due("soonest(0)", x.soonest(0), 2);
        CHECK.due("soonest(1)", x.soonest(1), 2);
        CHECK.due("soonest(2)", x.soonest(2), -1);
        CHECK.due("lasts(0)", x.lasts(0), 6);
        CHECK.due("lasts(1)", x.lasts(1), -1);
        CHECK.due("lasts(2)", x.lasts(2), -1);
    }

    private static void oneHouseLater() {
        TwinLamps x = threeHours();
        x.hours(2);
        CHECK.due("then(1) at 2", x.then(1), 3);
        CHECK.due("soonest(0) at 2", x.soonest(0), 1);
        CHECK.due("lasts(0) at 2", x.lasts(0), 4);
        CHECK.due("burnt(0, 4) at 2", x.burnt(0, 4), 2);
        x.trim(0, 4);
        CHECK.due("lasts(0) trimmed: at 2, 5, 25, 26", x.lasts(0), 25);
        CHECK.due("grief(0, 28) trimmed: at 29", x.grief(0, 28), 2);
        x.trim(0, 99);
        x.hours(4);
        CHECK.due("soonest(0) at 6: at 25", x.soonest(0), 20);
        TwinLamps late = Check.street("home 0 0;lamp 0 1;lamp 0 96;lamp 0 97;wants house=0;");
        late.hours(1);
        CHECK.due("lasts(0) at once", late.lasts(0), 0);
        CHECK.due("lasts(1)", late.lasts(1), 95);
        CHECK.due("lasts(2): the last hour that is looked at", late.lasts(2), 96);
        late.trim(2, 97);
        CHECK.due("lasts(2): one hour more", late.lasts(2), -1);
        CHECK.due("then(96)", late.then(96), 4);
        CHECK.due("soonest of one without oil", late.soonest(0), -1);
    }

    private static void nothingChanges() {
        TwinLamps x = threeHours();
        x.then(96);
        x.burnt(0, 96);
        x.shining(0, 96);
        x.soonest(2);
        x.lasts(0);
        x.grief(0, 96);
        x.quarrels(96);
        x.busiest(0);
        CHECK.due("hour", x.count(3), 0);
        CHECK.due("oil", x.count(6), 16);
        CHECK.due("lit", x.count(4), 0);
        CHECK.due("acts", x.count(11), 0);
    }

    /** House 0 wants dark, house 1 wants light, and comes later: lit for fifty hours. */
    private static void quarrels() {
        TwinLamps x = Check.street("home 0 0;home 0 0;lamp 0 50;lamp 1 60;twins 0 1;wants house;");
        CHECK.due("quarrels(1)", x.quarrels(1), 0);
        CHECK.due("quarrels(2)", x.quarrels(2), 1);
        CHECK.due("quarrels(50)", x.quarrels(50), 49);
        CHECK.due("quarrels(96)", x.quarrels(96), 49);
        CHECK.due("grief(0, 96)", x.grief(0, 96), 50);
        CHECK.due("grief(1, 50)", x.grief(1, 50), 0);
        CHECK.due("grief(1, 96)", x.grief(1, 96), 46);
        CHECK.due("lasts(0)", x.lasts(0), 50);
        x.flick(0);
        CHECK.due("quarrels(1), lit ahead", x.quarrels(1), 1);
        TwinLamps y = Check.street("home 0 0;home 0 0;lamp 1 50;lamp 0 60;twins 0 1;wants house;");
        CHECK.due("the other one first: lit and put out in each hour", y.quarrels(10), 10);
        CHECK.due("then(10)", y.then(10), 0);
        CHECK.due("burnt(0, 10)", y.burnt(0, 10), 0);
        CHECK.due("grief(0, 10)", y.grief(0, 10), 0);
        CHECK.due("grief(1, 10)", y.grief(1, 10), 10);
    }

    private static void noQuarrels() {
        TwinLamps x = Check.street("home 0 0;lamp 0 9;lamp 0 9;lamp 0 9;lamp 0 9;lamp 0 9;twins 0 2;twins 1 3;wants 1;");
        CHECK.due("two couples and a singleton, each flicked once", x.quarrels(1), 0);
        CHECK.due("all are lit", x.then(1), 31);
        TwinLamps y = Check.street("home 0 0;lamp 0 0;lamp 0 5;twins 0 1;wants 1;");
        CHECK.due("nothing is done to what can't be lit", y.quarrels(5), 0);
        CHECK.due("but both are complained of", y.grief(0, 5), 10);
        y.trim(0, 5);
        y.breaks(1);
        CHECK.due("nothing is done to what is broken", y.quarrels(5), 0);
        CHECK.due("but both are complained of again", y.grief(0, 5), 10);
    }

    private static void sleepersDoNotComplain() {
        TwinLamps x = Check.street("tower 1 3;tower 2 3;lamp 0 9;lamp 1 9;wants house=1;");
        CHECK.due("then(1)", x.then(1), 0);
        CHECK.due("then(3)", x.then(3), 2);
        CHECK.due("then(24)", x.then(9), 2);
        CHECK.due("grief(1, 24)", x.grief(1, 24), 0);
        x.flick(0);
        CHECK.due("lit by hand while its house sleeps", x.then(1), 1);
        CHECK.due("put out when it wakes", x.then(2), 0);
        CHECK.due("grief(0, 24)", x.grief(0, 24), 0);
        x.sleep(0, 0, 1);
        x.breaks(1);
        CHECK.due("grief(1, 26) of a broken one: at 2", x.grief(1, 26), 1);
    }

    /** Twins whose oil ends in the same hour, and one whose twin's oil ends ahead of its own. */
    private static void oilAtOnce() {
        TwinLamps x = Check.street("home 0 0;lamp 0 2;lamp 0 2;lamp 0 9;lamp 0 3;twins 0 1;twins 3 2;wants 1;");
        CHECK.due("then(2)", x.then(2), 15);
        CHECK.due("then(3)", x.then(3), 12);
        CHECK.due("then(4)", x.then(4), 0);
        CHECK.due("burnt(1, 96)", x.burnt(1, 96), 2);
        CHECK.due("burnt(2, 96)", x.burnt(2, 96), 3);
        CHECK.due("lasts(2)", x.lasts(2), -1);
        TwinLamps y = Check.street("home 0 0;lamp 0 9;wants oil<7 or 8<oil;");
        CHECK.due("oil is asked ahead of burning", y.then(1), 1);
        CHECK.due("and anew in each hour", y.then(2), 0);
        CHECK.due("no complaint by the oil that is left", y.grief(0, 5), 0);
    }

    private static void busiest() {
        TwinLamps x = Check.street("home 18 20;tower 19 6;lamp 0 1;lamp 1 1;lamp 1 0;");
        CHECK.due("busiest(0)", x.busiest(0), 19);
        CHECK.due("busiest(1)", x.busiest(1), 3);
        x.sleep(0, 19, 19);
        CHECK.due("of like ones the first", x.busiest(0), 0);
        CHECK.due("how many", x.busiest(1), 3);
        x.sleep(0, 12, 13);
        x.sleep(1, 12, 19);
        CHECK.due("awake and wanted", x.busiest(0), 18);
        CHECK.due("awake and wanted: how many", x.busiest(1), 2);
        TwinLamps y = Check.street("alley 0 0;lamp 0 5;");
        CHECK.due("never any", y.busiest(0), -1);
        CHECK.due("never any: how many", y.busiest(1), 0);
        CHECK.noSuch("busiest(2)", () -> y.busiest(2));
        CHECK.noSuch("busiest(-1)", () -> y.busiest(-1));
    }

    private static void wrongHours() {
        TwinLamps x = threeHours();
        CHECK.illegal("then(0)", () -> x.then(0));
        CHECK.illegal("then(97)", () -> x.then(97));
        CHECK.illegal("then(-1)", () -> x.then(-1));
        CHECK.illegal("burnt(0, -1)", () -> x.burnt(0, -1));
        CHECK.illegal("burnt(0, 97)", () -> x.burnt(0, 97));
        CHECK.illegal("shining(0, -1)", () -> x.shining(0, -1));
        CHECK.illegal("shining(0, 97)", () -> x.shining(0, 97));
        CHECK.illegal("grief(0, -1)", () -> x.grief(0, -1));
        CHECK.illegal("grief(0, 97)", () -> x.grief(0, 97));
        CHECK.illegal("quarrels(-1)", () -> x.quarrels(-1));
        CHECK.illegal("quarrels(97)", () -> x.quarrels(97));
    }

    private static void wrongNumbers() {
        TwinLamps x = threeHours();
        for (int lamp : new int[] {-1, 3, 12, Integer.MAX_VALUE, Integer.MIN_VALUE}) {
            CHECK.noSuch("burnt(" + lamp + ", 1)", () -> x.burnt(lamp, 1));
            CHECK.noSuch("burnt(" + lamp + ", 97)", () -> x.burnt(lamp, 97));
            CHECK.noSuch("shining(" + lamp + ", 1)", () -> x.shining(lamp, 1));
            CHECK.noSuch("shining(" + lamp + ", 97)", () -> x.shining(lamp, 97));
            CHECK.noSuch("soonest(" + lamp + ")", () -> x.soonest(lamp));
            CHECK.noSuch("lasts(" + lamp + ")", () -> x.lasts(lamp));
            CHECK.noSuch("grief(" + lamp + ", 1)", () -> x.grief(lamp, 1));
            CHECK.noSuch("grief(" + lamp + ", 97)", () -> x.grief(lamp, 97));
        }
        CHECK.noSuch("grief(2, 1)", () -> x.grief(2, 1));
        CHECK.due("STATUS 1", x.count(15), 0);
    }
}
