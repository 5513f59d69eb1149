/** Promises 29 to 32: what is seen, whose twin a lamp might be, where to look next, forgetting. */
final class SightsTest {
    private static final Check CHECK = new Check();

    public static void main(String[] args) {
        seeing();
        fourHouses();
        litAsTheyAre();
        fromNow();
        lookingNext();
        lookingAtWhatComes();
        wrongNumbers();
        CHECK.end();
    }

    private static void seeing() {
        TwinLamps x = Check.street("home 0 0;lamp 0 9;");
        CHECK.due("see(0, 0, true)", x.see(0, 0, true), -1);
        CHECK.due("see(0, 49, true)", x.see(0, 49, true), -1);
        CHECK.due("see(0, -1, true)", x.see(0, -1, true), -1);
        for (int i = 1; i <= 8; i++) {
            CHECK.due("see", x.see(0, i == 8 ? 48 : 1, i % 2 == 0), i);
        }
        CHECK.due("the ninth", x.see(0, 1, true), -1);
        CHECK.due("STATUS 2", x.count(16), 4);
        CHECK.due("seen", x.count(12), 8);
        CHECK.due("no act", x.count(11), 0);
        CHECK.noSuch("see(1, 1, true)", () -> x.see(1, 1, true));
        CHECK.noSuch("see(-1, 49, true)", () -> x.see(-1, 49, true));
        CHECK.due("STATUS 2 behind exceptions", x.count(16), 4);
        x.forget();
        CHECK.due("seen, forgotten", x.count(12), 0);
        CHECK.due("STATUS 2, forgotten", x.count(16), 4);
        CHECK.due("see again", x.see(0, 1, true), 1);
    }

    /** Each house wants light in an hour of its own; what is lit then are its lamp and the twin of that. */
    private static TwinLamps hourByHour() {
        return Check.street("home 0 1;home 1 2;home 2 3;home 3 4;home 4 7;lamp 0 9;lamp 1 9;lamp 2 9;lamp 3 9;lamp 4 9;"
                + "twins 0 1;twins 2 3;wants house=hour;");
    }

    private static void fourHouses() {
        TwinLamps x = hourByHour();
        CHECK.due("whose(0), nothing seen", x.whose(0), 4096 + 12);
        CHECK.due("whose(3), nothing seen", x.whose(3), 4096 + 3);
        CHECK.due("whose(4), alone", x.whose(4), 4096);
        x.see(0, 1, true);
        x.see(1, 1, true);
        CHECK.due("whose(0), as it is", x.whose(0), 4096);
        x.forget();
        x.see(1, 1, false);
        CHECK.due("whose(0), not as it is", x.whose(0), 12);
        x.see(2, 1, true);
        CHECK.due("whose(0): its twin is 2, that of 3", x.whose(0), 8);
        CHECK.due("whose(1): its twin is 3, that of 2", x.whose(1), 4);
        CHECK.due("whose(2): its twin is 0, that of 1", x.whose(2), 2);
        CHECK.due("whose(4), alone, and it isn't so", x.whose(4), 0);
        x.see(3, 4, false);
        CHECK.due("whose(0), none fits", x.whose(0), 0);
        CHECK.due("twins stay", x.lamp(0, 2), 1);
    }

    /** All sleep: what is lit by hand burns until its oil ends, each lamp by its own. */
    private static void litAsTheyAre() {
        TwinLamps x = Check.street("home 5 6;lamp 0 9;lamp 0 1;lamp 0 9;lamp 0 2;twins 0 1;twins 2 3;wants 0;");
        x.flick(0);
        x.see(0, 2, true);
        CHECK.due("0 goes on, once 1 is the twin of another one", x.whose(0), 12);
        CHECK.due("the same from 1", x.whose(1), 12);
        CHECK.due("the same from 2", x.whose(2), 3);
        x.see(0, 5, true);
        x.see(2, 1, false);
        x.see(3, 2, false);
        CHECK.due("the others stay dark", x.whose(0), 12);
        x.trim(3, 0);
        CHECK.due("a dark twin without oil counts for nothing", x.whose(0), 12);
        x.see(0, 6, false);
        CHECK.due("put out at 5", x.whose(0), 12);
        x.see(1, 2, true);
        CHECK.due("1 has no more oil", x.whose(0), 0);
    }

    private static void fromNow() {
        TwinLamps x = Check.street("home 0 0;lamp 0 9;lamp 0 9;lamp 0 9;lamp 0 1;twins 0 1;twins 2 3;wants hour=1 or hour=3;");
        x.see(0, 2, true);
        CHECK.due("whose(0) at 0: lit at 1", x.whose(0), 4096 + 12);
        x.hours(1);
        CHECK.due("whose(0) at 1: dark at 2", x.whose(0), 0);
        x.hours(1);
        CHECK.due("whose(0) at 2: lit at 3, but not with 3, which has no more oil", x.whose(0), 4096 + 8);
        x.undo();
        CHECK.due("whose(0) at 1 again", x.whose(0), 0);
    }

    private static void lookingNext() {
        TwinLamps x = Check.street("home 0 0;home 12 13;lamp 0 9;lamp 1 9;lamp 1 9;lamp 1 9;lamp 1 9;lamp 1 9;lamp 1 9;"
                + "twins 0 1;twins 2 3;twins 4 5;wants house=0 and hour=3;");
        CHECK.due("look(0, 0)", x.look(0, 0), 4);
        CHECK.due("look(0, 1)", x.look(0, 1), 4);
        CHECK.due("look(2, 0): as it is by 3, 4 and 5; 0 gets 3, or 2", x.look(2, 0), 4);
        CHECK.due("look(2, 1)", x.look(2, 1), 3);
        CHECK.due("look(6, 0), alone", x.look(6, 0), -1);
        CHECK.due("look(6, 1), alone", x.look(6, 1), 0);
        x.see(1, 4, false);
        x.see(2, 4, false);
        CHECK.due("look(0, 0) without 3", x.look(0, 0), 4);
        CHECK.due("look(0, 1) without 3", x.look(0, 1), 3);
        x.see(3, 4, true);
        CHECK.due("look(0, 0), one is left", x.look(0, 0), 1);
        CHECK.due("look(0, 1), one is left", x.look(0, 1), 1);
        x.see(5, 4, true);
        CHECK.due("look(0, 0), none is left", x.look(0, 0), -1);
        CHECK.due("look(0, 1), none is left", x.look(0, 1), 0);
        x.forget();
        x.hours(20);
        CHECK.due("look(0, 0) at 20: at 3 again", x.look(0, 0), 8);
        CHECK.due("the hour stays", x.count(3), 20);
        TwinLamps late = Check.street("home 0 0;lamp 0 9;lamp 0 9;lamp 0 9;lamp 0 9;twins 0 1;twins 2 3;wants 0;");
        CHECK.due("all alike in all hours: look(0, 0)", late.look(0, 0), 1);
        CHECK.due("all alike in all hours: look(0, 1)", late.look(0, 1), 1);
    }

    /** Oil that ends at the last hour that is looked at tells two changes apart. */
    private static void lookingAtWhatComes() {
        TwinLamps x = Check.street("home 0 0;home 12 13;lamp 0 99;lamp 1 99;lamp 1 47;lamp 1 48;twins 0 1;twins 2 3;"
                + "wants house=0 or 12=hour;");
        // with 3 it is lit beside 0 from the first hour on, with 2 too: always two sets
        CHECK.due("look(0, 0)", x.look(0, 0), 1);
        CHECK.due("look(0, 1)", x.look(0, 1), 2);
        TwinLamps y = Check.street("home 12 13;lamp 0 99;lamp 0 99;lamp 0 40;lamp 0 30;twins 0 1;twins 2 3;wants 1;");
        y.hours(13);
        // all are lit from 12 on: 0 with 2, 1 with 3, or 0 with 3, 1 with 2: once 3 (29 left) is burnt, its twin is dark
        CHECK.due("look(0, 0) in what is left", y.look(0, 0), 30);
        CHECK.due("look(0, 1) in what is left", y.look(0, 1), 2);
    }

    private static void wrongNumbers() {
        TwinLamps x = Check.street("home 0 0;lamp 0 9;");
        CHECK.noSuch("whose(1)", () -> x.whose(1));
        CHECK.noSuch("whose(-1)", () -> x.whose(-1));
        CHECK.noSuch("look(1, 0)", () -> x.look(1, 0));
        CHECK.noSuch("look(-1, 0)", () -> x.look(-1, 0));
        CHECK.noSuch("look(0, 2)", () -> x.look(0, 2));
        CHECK.noSuch("look(0, -1)", () -> x.look(0, -1));
    }
}
