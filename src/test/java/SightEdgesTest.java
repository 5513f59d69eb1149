/** Part 4 of the document and promises 29 to 36, sentence by sentence: what stands at an edge, and what beyond it. */
final class SightEdgesTest {
    private static final Check CHECK = new Check();
    private static final int[] FAR = {Integer.MIN_VALUE, Integer.MAX_VALUE, -2};
    private static final int SO_WITHOUT = 4096;
    private static final String COUPLE = "home 0 0;lamp 0 9;lamp 0 9;twins 0 1;";

    public static void main(String[] args) {
        seen();
        seenIsRefused();
        seenFromNow();
        seenInTheLastHour();
        whoseMayBe();
        whoseIsOutOfQuestion();
        whoseLitAsTheyAre();
        whoseAllSeen();
        whoseWithout();
        lookNext();
        lookAtTheLastHour();
        lookWithoutAny();
        forgotten();
        gameOfChoices();
        gameOfTheNextHour();
        gameThatIsNone();
        winterFlicks();
        winterBreaks();
        winterOil();
        winterDraws();
        winterHours();
        winterIsRefused();
        imageKeeps();
        imageInPlaceOfAnother();
        imageIsNone();
        CHECK.end();
    }

    // ---- what is seen

    private static void seen() {
        CHECK.sentence("SEEN (at most 8): that a LAMP was LIT, or not, IN the HOUR so many from now (1 to 48;");
        TwinLamps x = Check.street("home 0 0;" + "lamp 0 9;".repeat(12));
        for (int i = 1; i <= 8; i++) {
            CHECK.due("see", x.see(i % 2 == 0 ? 11 : 0, i < 5 ? 1 : 48, i % 2 == 0), i);
            CHECK.due("count(12)", x.count(12), i);
        }
        CHECK.due("the ninth", x.see(0, 1, true), -1);
        CHECK.due("count(12)", x.count(12), 8);
        CHECK.due("STATUS 2", x.count(16), 1);
        CHECK.due("no act", x.count(11) + x.count(15), 0);
        x.undo();
        CHECK.due("undo() leaves it", x.count(12), 8);
    }

    private static void seenIsRefused() {
        CHECK.sentence("SEEN: how much is. NONE (STATUS 2): there are 8, not 1 to 48. NoSuchElementException (ahead): no such LAMP.");
        TwinLamps x = Check.street("home 0 0;lamp 0 9;");
        int[] wrong = {0, 49, -1, Integer.MAX_VALUE, Integer.MIN_VALUE};
        for (int i = 0; i < wrong.length; i++) {
            CHECK.due("see(0, " + wrong[i] + ", true)", x.see(0, wrong[i], true), -1);
            CHECK.due("STATUS 2", x.count(16), i + 1);
            CHECK.due("count(12)", x.count(12), 0);
        }
        CHECK.due("the same twice", x.see(0, 48, true), 1);
        CHECK.due("the same twice", x.see(0, 48, true), 2);
        CHECK.due("its contrary too", x.see(0, 48, false), 3);
        for (int i = 4; i <= 8; i++) {
            x.see(0, 1, true);
        }
        CHECK.due("the ninth, beyond 48", x.see(0, 49, true), -1);
        CHECK.due("STATUS 2, once for both", x.count(16), 6);
        for (int lamp : new int[] {1, -1, 12, Integer.MAX_VALUE}) {
            CHECK.noSuch("see(" + lamp + ", 49, true)", () -> x.see(lamp, 49, true));
        }
        CHECK.due("STATUS 2 stays", x.count(16), 6);
    }

    private static void seenFromNow() {
        CHECK.sentence("from now whenever it is asked).");
        TwinLamps x = Check.street("home 0 0;lamp 0 9;lamp 0 9;lamp 0 9;lamp 0 9;twins 0 1;twins 2 3;wants hour=2;");
        x.see(0, 3, true);
        CHECK.due("at 0: in hour 2", x.whose(0), SO_WITHOUT + 12);
        x.hours(1);
        CHECK.due("at 1: in hour 3", x.whose(0), 0);
        x.hours(23);
        CHECK.due("at 24: in hour 26", x.whose(0), SO_WITHOUT + 12);
        x.undo();
        CHECK.due("at 1 again", x.whose(0), 0);
    }

    private static void seenInTheLastHour() {
        CHECK.sentence("IN the HOUR so many from now (1 to 48;");
        TwinLamps x = Check.street("home 0 0;lamp 0 48;lamp 0 48;lamp 0 47;lamp 0 99;twins 0 1;twins 2 3;wants 1;");
        x.see(0, 48, true);
        CHECK.due("with 3 it would be that of 2, whose oil ends an hour ahead", x.whose(0), SO_WITHOUT + 4);
        x.forget();
        x.see(2, 1, true);
        CHECK.due("the first hour", x.whose(0), SO_WITHOUT + 12);
        x.see(2, 48, true);
        CHECK.due("none has oil for 2 in the last one", x.whose(0), 0);
    }

    private static void whoseMayBe() {
        CHECK.sentence("WHOSE: LAMPS with which a LAMP might change its TWIN (each of both would have the other one's TWIN,"
            + " from now on,");
        TwinLamps x = Check.street("home 0 1;home 1 2;home 2 3;home 3 4;lamp 0 9;lamp 1 9;lamp 2 9;lamp 3 9;"
                + "twins 0 1;twins 2 3;wants house=hour;");
        x.see(3, 1, true);
        CHECK.due("0 has the twin of 2", x.whose(0), 4);
        CHECK.due("1 has the twin of 3", x.whose(1), 8);
        CHECK.due("2 has the twin of 0", x.whose(2), 1);
        CHECK.due("3 has the twin of 1", x.whose(3), 2);
        x.see(2, 2, true);
        CHECK.due("1 has the twin of 3 then", x.whose(0), 4);
        x.see(1, 1, false);
        CHECK.due("and not 0", x.whose(0), 4);
        CHECK.due("lamp(0, 2) stays", x.lamp(0, 2), 1);
        CHECK.due("lamp(2, 2) stays", x.lamp(2, 2), 3);
        CHECK.sentence("WHOSE, as bits.");
        TwinLamps all = Check.street("home 0 0;" + "lamp 0 1;".repeat(12)
                + "twins 0 11;twins 1 10;twins 2 9;twins 3 8;twins 4 7;twins 5 6;");
        for (int lamp = 0; lamp < 12; lamp++) {
            CHECK.due("all but two: whose(" + lamp + ")", all.whose(lamp), SO_WITHOUT + 0xFFF - (1 << lamp) - (1 << 11 - lamp));
        }
        CHECK.noSuch("whose(12)", () -> all.whose(12));
        CHECK.noSuch("whose(-1)", () -> all.whose(-1));
    }

    private static void whoseIsOutOfQuestion() {
        CHECK.sentence("not its TWIN, not itself, both with TWINS)");
        TwinLamps x = Check.street("home 0 0;lamp 0 9;lamp 0 9;lamp 0 9;lamp 0 9;lamp 0 9;lamp 0 9;twins 1 4;twins 2 3;");
        CHECK.due("whose(1): not 0, 5", x.whose(1), SO_WITHOUT + 12);
        CHECK.due("whose(4)", x.whose(4), SO_WITHOUT + 12);
        CHECK.due("whose(2)", x.whose(2), SO_WITHOUT + 18);
        CHECK.due("whose(0), alone", x.whose(0), SO_WITHOUT);
        x.breaks(3);
        CHECK.due("broken ones may", x.whose(1), SO_WITHOUT + 12);
        CHECK.due("one couple alone", Check.street(COUPLE).whose(0), SO_WITHOUT);
    }

    private static void whoseLitAsTheyAre() {
        CHECK.sentence("LIT as they are;");
        TwinLamps x = Check.street("home 9 10;lamp 0 9;lamp 0 9;lamp 0 9;lamp 0 9;twins 0 1;twins 2 3;wants 0;");
        x.flick(1);
        x.see(0, 1, true);
        x.see(1, 1, true);
        x.see(2, 1, false);
        x.see(3, 1, false);
        CHECK.due("lit beside a dark twin", x.whose(0), SO_WITHOUT + 12);
        x.see(0, 9, true);
        x.see(2, 9, false);
        CHECK.due("till the house wakes", x.whose(0), SO_WITHOUT + 12);
        x.see(0, 10, true);
        CHECK.due("then it is put out", x.whose(0), 0);
        TwinLamps y = Check.street("home 9 10;lamp 0 9;lamp 0 20;lamp 0 9;lamp 0 20;twins 0 1;twins 2 3;wants 1;");
        y.flick(0);
        y.see(3, 9, false);
        CHECK.due("dark beside a lit twin", y.whose(1), SO_WITHOUT + 12);
        y.see(3, 10, true);
        CHECK.due("lit when its house wakes, but for the twin of 0, whose oil is gone", y.whose(1), SO_WITHOUT + 4);
        y.see(1, 10, true);
        CHECK.due("1 stays lit, once it isn't the twin of 0 any more", y.whose(1), 4);
    }

    private static void whoseAllSeen() {
        CHECK.sentence("so that all SEEN would be so: as bits;");
        TwinLamps x = Check.street("home 0 1;home 1 2;home 2 3;home 3 4;lamp 0 9;lamp 1 9;lamp 2 9;lamp 3 9;"
                + "twins 0 1;twins 2 3;wants house=hour;");
        x.see(1, 1, false);
        CHECK.due("one seen, two fit", x.whose(0), 12);
        x.see(2, 1, true);
        CHECK.due("two seen, one fits", x.whose(0), 8);
        x.see(3, 1, true);
        CHECK.due("three seen, none fits", x.whose(0), 0);
        x.forget();
        x.see(0, 1, true);
        x.see(0, 1, false);
        CHECK.due("lit and not lit", x.whose(0), 0);
        x.forget();
        for (int i = 0; i < 7; i++) {
            x.see(0, 1, true);
        }
        CHECK.due("seven that say nothing", x.whose(0), SO_WITHOUT + 12);
        x.see(2, 1, true);
        CHECK.due("the eighth does", x.whose(0), 8);
    }

    private static void whoseWithout() {
        CHECK.sentence("and (bit 12) whether it is so without.");
        TwinLamps x = Check.street("home 0 1;home 1 2;lamp 0 9;lamp 1 9;lamp 1 9;twins 0 1;wants house=hour;");
        CHECK.due("nothing seen", x.whose(0), SO_WITHOUT);
        x.see(1, 1, true);
        CHECK.due("as it is", x.whose(0), SO_WITHOUT);
        CHECK.due("of a singleton too", x.whose(2), SO_WITHOUT);
        x.see(2, 1, true);
        CHECK.due("not as it is", x.whose(0), 0);
        CHECK.due("of a singleton too", x.whose(2), 0);
    }

    private static void lookNext() {
        CHECK.sentence("LOOK NEXT: the HOUR (1 to 48) in which by these (bits 0 to 11) most unlike sets of LAMPS would be LIT"
            + " (of like ones the first): how many;");
        TwinLamps x = Check.street("home 5 6;home 7 8;lamp 0 9;" + "lamp 1 9;".repeat(9)
                + "twins 0 1;twins 2 3;twins 4 5;twins 6 7;twins 8 9;wants house=0;");
        CHECK.due("0 gets eight twins: look(0, 0)", x.look(0, 0), 6);
        CHECK.due("look(0, 1)", x.look(0, 1), 8);
        x.see(2, 6, false);
        x.see(3, 6, false);
        CHECK.due("two less", x.look(0, 1), 6);
        x.forget();
        x.hours(5);
        CHECK.due("the first hour: look(0, 0)", x.look(0, 0), 1);
        CHECK.due("look(0, 1)", x.look(0, 1), 8);
        x.hours(1);
        CHECK.due("0 is lit, and no twin of it will be: look(0, 0)", x.look(0, 0), 1);
        CHECK.due("look(0, 1)", x.look(0, 1), 1);
        x.flick(0);
        CHECK.due("dark, lit a day later: look(0, 0)", x.look(0, 0), 24);
        CHECK.due("look(0, 1)", x.look(0, 1), 8);
        CHECK.due("of 2: with 0 it has 1, with 1 it has 0, else 0 has 1: look(2, 1)", x.look(2, 1), 3);
        TwinLamps y = Check.street("home 0 0;lamp 0 9;lamp 0 9;lamp 0 9;lamp 0 9;twins 0 1;twins 2 3;wants 1;");
        y.see(0, 9, true);
        CHECK.due("all alike: look(0, 0)", y.look(0, 0), 1);
        CHECK.due("all alike: look(0, 1)", y.look(0, 1), 1);
    }

    private static void lookAtTheLastHour() {
        CHECK.sentence("LOOK NEXT: the HOUR (1 to 48)");
        for (int oil = 46; oil <= 48; oil++) {
            TwinLamps x = Check.street("home 12 13;lamp 0 99;lamp 0 99;lamp 0 99;lamp 0 99;twins 0 1;twins 2 3;wants 1;");
            x.hours(13);
            x.trim(3, oil);
            CHECK.due("3 has oil for " + oil + ": look(0, 0)", x.look(0, 0), oil < 48 ? oil + 1 : 1);
            CHECK.due("3 has oil for " + oil + ": look(0, 1)", x.look(0, 1), oil < 48 ? 2 : 1);
        }
    }

    private static void lookWithoutAny() {
        CHECK.sentence("LOOK NEXT: the HOUR (what 0; NONE), how many (1; 0: none). NoSuchElementException: also another what.");
        TwinLamps x = Check.street("home 0 0;lamp 0 9;lamp 0 9;lamp 0 9;twins 0 1;");
        for (int lamp = 0; lamp < 3; lamp++) {
            CHECK.due("one couple: look(" + lamp + ", 0)", x.look(lamp, 0), -1);
            CHECK.due("one couple: look(" + lamp + ", 1)", x.look(lamp, 1), 0);
        }
        CHECK.noSuch("look(0, 2)", () -> x.look(0, 2));
        CHECK.noSuch("look(0, -1)", () -> x.look(0, -1));
        CHECK.noSuch("look(3, 0)", () -> x.look(3, 0));
        CHECK.noSuch("look(-1, 0)", () -> x.look(-1, 0));
        for (int far : FAR) {
            CHECK.noSuch("look(0, far)", () -> x.look(0, far));
        }
        CHECK.sentence("none without any.");
        TwinLamps y = Check.street("home 0 0;lamp 0 9;lamp 0 9;lamp 0 9;lamp 0 9;twins 0 1;twins 2 3;wants 1;");
        CHECK.due("two fit: look(0, 0)", y.look(0, 0), 1);
        y.see(0, 1, false);
        CHECK.due("none fits: look(0, 0)", y.look(0, 0), -1);
        CHECK.due("none fits: look(0, 1)", y.look(0, 1), 0);
        CHECK.due("hour, acts", y.count(3) + y.count(11), 0);
    }

    private static void forgotten() {
        CHECK.sentence("All that is SEEN is forgotten.");
        TwinLamps x = Check.street("home 0 0;lamp 0 9;lamp 0 9;lamp 0 9;lamp 0 9;twins 0 1;twins 2 3;wants 1;");
        for (int i = 0; i < 8; i++) {
            x.see(0, 1, false);
        }
        x.see(0, 1, true);
        CHECK.due("none fits", x.whose(0), 0);
        x.forget();
        CHECK.due("count(12)", x.count(12), 0);
        CHECK.due("STATUS 2 stays", x.count(16), 1);
        CHECK.due("nothing seen", x.whose(0), SO_WITHOUT + 12);
        x.forget();
        for (int i = 1; i <= 8; i++) {
            CHECK.due("see anew", x.see(0, 1, true), i);
        }
        CHECK.due("all as seen anew", x.whose(0), SO_WITHOUT + 12);
    }

    // ---- a game

    private static void gameOfChoices() {
        CHECK.sentence("A GAME of two TWINS for the next HOUR: each one's HOUSE chooses light or dark (1, 0), whatever it WANTS;"
            + " the LAMP of the lesser number is FLICKED first, if it isn't as is chosen for it, then the other one,"
            + " if it isn't so then: for each one 3 are gained, if both are in the end as its HOUSE WANTS it in the next HOUR"
            + " (AWAKE or not), and 1 is lost, if it was FLICKED.");
        for (int all = 0; all < 8; all++) {
            int firstWants = all & 1;
            int secondWants = all >> 1 & 1;
            int lit = all >> 2;
            TwinLamps x = Check.street("home 0 0;home 0 0;lamp 1 9;lamp 0 9;twins 1 0;"
                    + "wants house=1 and " + firstWants + " or house=0 and " + secondWants + ";");
            if (lit == 1) {
                x.flick(1);
            }
            String name = "wanted " + firstWants + ", " + secondWants + ", lit " + lit;
            // the first one is overruled, so it but saves its flick; the second one has its way
            CHECK.due(name + " game(0, 1, 0)", x.game(0, 1, 0), 1);
            CHECK.due(name + " game(0, 1, 1)", x.game(0, 1, 1), 10 * lit + secondWants);
            CHECK.due(name + " game(1, 0, 0)", x.game(1, 0, 0), 1);
            CHECK.due(name + " game(1, 0, 1)", x.game(1, 0, 1), 10 * secondWants + lit);
        }
        CHECK.sentence("A couple RESTS, if neither gains more by the other choice: how many;"
            + " the first (10 by the first one's, the second one's, as they are told).");
        TwinLamps y = Check.street(COUPLE + "wants 1;");
        y.flick(0);
        CHECK.due("both light", y.game(0, 1, 1), 11);
        y.flick(0);
        CHECK.due("the second one lights it", y.game(0, 1, 1), 1);
        CHECK.due("the second one lights it, told first", y.game(1, 0, 1), 10);
    }

    private static void gameOfTheNextHour() {
        CHECK.sentence("as its HOUSE WANTS it in the next HOUR (AWAKE or not),");
        TwinLamps x = Check.street("home 9 10;home 9 10;lamp 0 9;lamp 1 9;twins 0 1;wants hour=3;");
        for (int hour = 0; hour < 28; hour++) {
            CHECK.due("at " + hour, x.game(0, 1, 1), hour % 24 == 3 ? 1 : 0);
            x.hours(1);
        }
        TwinLamps last = Check.street("home 9 10;lamp 0 1;lamp 0 1;twins 0 1;wants 1;");
        CHECK.due("the last oil is enough", last.game(0, 1, 1), 1);
        CHECK.due("no act", last.count(11) + last.count(4), 0);
    }

    private static void gameThatIsNone() {
        CHECK.sentence("A GAME: how many couples rest (what 0), the first (1; NONE: none). NoSuchElementException: also another what."
            + " IllegalArgumentException (behind that): they are no TWINS, can't be LIT.");
        TwinLamps x = Check.street(COUPLE + "lamp 0 9;lamp 0 9;lamp 0 9;twins 2 3;");
        CHECK.illegal("of two couples", () -> x.game(0, 2, 0));
        CHECK.illegal("of one and itself", () -> x.game(0, 0, 1));
        CHECK.illegal("of a singleton and itself", () -> x.game(4, 4, 0));
        CHECK.illegal("of a singleton", () -> x.game(4, 0, 0));
        CHECK.illegal("with a singleton", () -> x.game(0, 4, 0));
        for (int far : new int[] {-1, 2, Integer.MIN_VALUE, Integer.MAX_VALUE}) {
            CHECK.noSuch("game(0, 1, " + far + ")", () -> x.game(0, 1, far));
            CHECK.noSuch("game(0, 2, " + far + "), no twins", () -> x.game(0, 2, far));
        }
        CHECK.noSuch("game(5, 0, 0)", () -> x.game(5, 0, 0));
        CHECK.noSuch("game(0, -1, 0): a singleton's twin is no lamp", () -> x.game(0, -1, 0));
        CHECK.noSuch("game(4, -1, 0): a singleton's twin is no lamp", () -> x.game(4, -1, 0));
        x.trim(0, 0);
        CHECK.illegal("game(0, 1, 0) without oil", () -> x.game(0, 1, 0));
        CHECK.illegal("game(1, 0, 0) without oil", () -> x.game(1, 0, 0));
        CHECK.noSuch("game(0, 1, 2) without oil", () -> x.game(0, 1, 2));
        x.breaks(3);
        CHECK.illegal("game(2, 3, 1) broken", () -> x.game(2, 3, 1));
        CHECK.illegal("game(3, 2, 1) broken", () -> x.game(3, 2, 1));
        CHECK.due("STATUS", x.count(14) + x.count(15) + x.count(16), 0);
    }

    // ---- winters

    /** The draws of a seed, one behind the other. */
    private static int[] draws(int seed, int... sides) {
        int[] drawn = new int[sides.length];
        int[] next = {seed};
        for (int i = 0; i < sides.length; i++) {
            drawn[i] = draw(next, sides[i]);
        }
        return drawn;
    }

    /** One lamp of five has oil; its house sleeps. */
    private static void winterFlicks() {
        CHECK.sentence("WINTERS by a seed: n HOURS (0 to 96) from now on: ahead of each a DRAW of LAMPS, then a DRAW of 5:"
            + " 0 it is FLICKED by hand, if it can be,");
        for (int lamp = 0; lamp < 5; lamp++) {
            TwinLamps x = Check.street("home 9 10;lamp 0 0;lamp 0 0;lamp 0 0;lamp 0 0;lamp 0 0;");
            x.trim(lamp, 2);
            for (int seed = -60; seed < 60; seed++) {
                int[] drawn = draws(seed, 5, 5);
                boolean flicked = drawn[0] == lamp && drawn[1] == 0;
                CHECK.due("one hour by " + seed, x.winter(seed, 1, 1), flicked ? 1 : 0);
            }
            x.flick(lamp);
            for (int seed = -60; seed < 60; seed++) {
                int[] drawn = draws(seed, 5, 5, 10);
                boolean flicked = drawn[0] == lamp && drawn[1] == 0;
                boolean broken = drawn[0] == lamp && drawn[1] == 1 && drawn[2] == 0;
                CHECK.due("lit, one hour by " + seed, x.winter(seed, 1, 1), flicked || broken ? 0 : 1);
            }
        }
    }

    private static void winterBreaks() {
        CHECK.sentence("1 it BREAKS, if the draw after that, of 10, is 0 (drawn only then),");
        TwinLamps x = Check.street("home 0 0;lamp 0 9;lamp 0 9;lamp 0 9;twins 0 2;wants 1;");
        int many = 0;
        for (int seed = 0; seed < 400; seed++) {
            int[] drawn = draws(seed, 3, 5, 10);
            boolean broken = drawn[1] == 1 && drawn[2] == 0;
            many += broken ? 1 : 0;
            int dark = broken ? drawn[0] == 1 ? 1 : 2 : 0;
            if (seed % 8 == 0 || broken) {
                CHECK.due("broken by " + seed, x.winter(seed, 1, 2), broken ? 1 : 0);
                CHECK.due("complaints by " + seed, x.winter(seed, 1, 0), dark);
                CHECK.due("lit by " + seed, x.winter(seed, 1, 1), 3 - dark);
            }
        }
        CHECK.due("some broke", many > 2, true);
        CHECK.due("none breaks here", x.count(5), 0);
        for (int lamp = 0; lamp < 3; lamp++) {
            x.breaks(lamp);
        }
        CHECK.due("broken ones stay so", x.winter(1, 96, 2), 3);
        CHECK.due("and are complained of", x.winter(1, 96, 0), 288);
    }

    private static void winterOil() {
        CHECK.sentence("2 its OIL is 9 more (99 at most), else nothing:");
        TwinLamps x = Check.street("home 0 0;lamp 0 0;wants oil=9;");
        TwinLamps full = Check.street("home 0 0;lamp 0 90;wants oil=99;");
        TwinLamps fuller = Check.street("home 0 0;lamp 0 91;wants oil=99;");
        TwinLamps beyond = Check.street("home 0 0;lamp 0 99;wants 99<oil;");
        for (int seed = -40; seed < 40; seed++) {
            boolean more = draws(seed, 1, 5)[1] == 2;
            boolean flicked = draws(seed, 1, 5)[1] == 0;
            CHECK.due("0 to 9 by " + seed, x.winter(seed, 1, 1), more ? 1 : 0);
            CHECK.due("90 to 99 by " + seed, full.winter(seed, 1, 1), more ? 1 : 0);
            CHECK.due("91 to 99 by " + seed, fuller.winter(seed, 1, 1), more ? 1 : 0);
            CHECK.due("99 stays by " + seed, beyond.winter(seed, 9, 1), 0);
            CHECK.due("a flick is put out in the hour by " + seed, beyond.winter(seed, 1, 0), 0);
            TwinLamps idle = Check.street("home 9 10;lamp 0 5;wants 1;");
            CHECK.due("nothing by 3 and 4, by " + seed, idle.winter(seed, 1, 1), flicked ? 1 : 0);
        }
    }

    private static void winterDraws() {
        CHECK.sentence("A seed becomes itself times 1103515245 and 12345 (an int that wraps);"
            + " a DRAW of n is its bits 16 to 30 MOD n then. (Without LAMPS nothing is drawn.)");
        int[] seeds = {0, 1, -1, 2, 77, 12345, 0x7FFF_FFFF, 0x8000_0000, 0x8000_0001, 1103515245, -12345, 987654321};
        for (int seed : seeds) {
            // one lamp, whose house sleeps till 9: a flick by hand is all that lights it
            TwinLamps x = Check.street("home 9 10;lamp 0 99;");
            int[] next = {seed};
            boolean lit = false;
            boolean broken = false;
            for (int n = 1; n <= 9; n++) {
                draw(next, 1);
                int event = draw(next, 5);
                if (event == 0 && !broken) {
                    lit = !lit;
                } else if (event == 1 && draw(next, 10) == 0) {
                    broken = true;
                    lit = false;
                }
                CHECK.due("winter(" + seed + ", " + n + ", 1)", x.winter(seed, n, 1), lit ? 1 : 0);
                CHECK.due("winter(" + seed + ", " + n + ", 2)", x.winter(seed, n, 2), broken ? 1 : 0);
            }
        }
        TwinLamps none = Check.street("home 0 0;");
        for (int what = 0; what < 3; what++) {
            CHECK.due("without lamps", none.winter(7, 96, what), 0);
            CHECK.due("without houses", new TwinLamps().winter(7, 96, what), 0);
        }
    }

    private static void winterHours() {
        CHECK.sentence("COMPLAINTS in these HOURS; LAMPS that are LIT at the end; BROKEN ones at the end.");
        TwinLamps x = Check.street("home 0 0;lamp 0 9;lamp 0 9;lamp 0 9;lamp 0 9;twins 0 1;wants 0;");
        x.flick(0);
        x.flick(2);
        x.breaks(3);
        CHECK.due("winter(1, 0, 0)", x.winter(1, 0, 0), 0);
        CHECK.due("winter(1, 0, 1)", x.winter(1, 0, 1), 3);
        CHECK.due("winter(1, 0, 2)", x.winter(1, 0, 2), 1);
        CHECK.due("put out in the first hour", x.winter(1, 1, 1), 0);
        for (int seed : new int[] {-3, 5, 11, 2026}) {
            hoursOfAWinter(seed);
        }
    }

    /** An awake house that wants light always: whatever has no oil, or is broken, is dark and complained of. */
    private static void hoursOfAWinter(int seed) {
        TwinLamps x = Check.street("home 0 0;lamp 0 0;lamp 0 9;lamp 0 30;wants 1;");
        int[] oil = {0, 9, 30};
        boolean[] broken = new boolean[3];
        int[] drawn = {seed};
        int[] due = {0, 0, 0};
        for (int n = 0; n <= 96; n++) {
            for (int what = 0; what < 3; what++) {
                CHECK.due("winter(" + seed + ", " + n + ", " + what + ")", x.winter(seed, n, what), due[what]);
            }
            int lamp = draw(drawn, 3);
            int event = draw(drawn, 5);
            if (event == 1 && draw(drawn, 10) == 0) {
                due[2] += broken[lamp] ? 0 : 1;
                broken[lamp] = true;
            } else if (event == 2) {
                oil[lamp] = Math.min(99, oil[lamp] + 9);
            }
            due[1] = 0;
            for (int i = 0; i < 3; i++) {
                boolean lit = oil[i] > 0 && !broken[i];
                due[0] += lit ? 0 : 1;
                oil[i] -= lit ? 1 : 0;
                due[1] += lit && oil[i] > 0 ? 1 : 0;
            }
        }
        CHECK.due("hour, acts stay", x.count(3) + x.count(11), 0);
    }

    private static int draw(int[] seed, int sides) {
        seed[0] = seed[0] * 1103515245 + 12345;
        return (seed[0] >>> 16) % 32768 % sides;
    }

    private static void winterIsRefused() {
        CHECK.sentence("WINTERS: COMPLAINTS (what 0), LIT ones (1), BROKEN ones (2). NoSuchElementException: another what."
            + " IllegalArgumentException (behind that): n.");
        TwinLamps x = Check.street(COUPLE);
        for (int what : new int[] {-1, 3, Integer.MIN_VALUE, Integer.MAX_VALUE}) {
            CHECK.noSuch("winter(1, 1, " + what + ")", () -> x.winter(1, 1, what));
            CHECK.noSuch("winter(1, 97, " + what + ")", () -> x.winter(1, 97, what));
        }
        for (int n : new int[] {-1, 97, Integer.MIN_VALUE, Integer.MAX_VALUE}) {
            for (int what = 0; what < 3; what++) {
                int its = what;
                CHECK.illegal("winter(1, " + n + ", " + what + ")", () -> x.winter(1, n, its));
            }
        }
        CHECK.illegal("winter(1, 97, 0) without lamps", () -> new TwinLamps().winter(1, 97, 0));
        CHECK.due("winter(1, 96, 2) is none", x.winter(1, 96, 2) >= 0, true);
    }

    // ---- an image

    private static void imageKeeps() {
        CHECK.sentence("AN IMAGE keeps all that ACTS change, the HOUR, what is LIT, ACTS that are kept, what is SEEN, STATUS.");
        TwinLamps x = Check.street("home 3 4;home 5 6;lamp 0 9;lamp 0 9;lamp 1 9;twins 0 1;wants hour=99;");
        x.hours(1);
        x.flick(0);
        x.breaks(2);
        x.hours(0);
        x.see(0, 1, true);
        x.see(0, 1, true);
        x.see(0, 0, true);
        x.image();
        x.hours(9);
        x.trim(0, 50);
        x.breaks(1);
        x.give(2, 0);
        x.sleep(0, 7, 8);
        x.flick(0);
        x.forget();
        x.see(1, 0, true);
        x.street(Check.feed(x, "!"));
        CHECK.due("restore()", x.restore(), true);
        CHECK.due("hour", x.count(3), 1);
        CHECK.due("lit", x.count(4), 3);
        CHECK.due("broken", x.count(5), 4);
        CHECK.due("oil", x.count(6), 27);
        CHECK.due("house of 2", x.lamp(2, 0), 1);
        CHECK.due("hours of 0", x.house(0, 1) * 24 + x.house(0, 2), 76);
        CHECK.due("acts", x.count(11), 3);
        CHECK.due("seen", x.count(12), 2);
        CHECK.due("what is seen", x.whose(0), SO_WITHOUT);
        CHECK.due("STATUS 0", x.count(14), 0);
        CHECK.due("STATUS 1", x.count(15), 1);
        CHECK.due("STATUS 2", x.count(16), 1);
        CHECK.due("undo()", x.undo(), 2);
        CHECK.due("mended", x.count(5), 0);
        CHECK.due("undo()", x.undo(), 1);
        CHECK.due("dark", x.count(4), 0);
        CHECK.due("undo()", x.undo(), 0);
        CHECK.due("hour", x.count(3), 0);
        CHECK.due("undo()", x.undo(), -1);
        imageKeepsWhatIsSeen();
        imageKeepsActs();
    }

    private static void imageKeepsWhatIsSeen() {
        TwinLamps x = Check.street("home 0 0;lamp 0 9;lamp 0 0;wants hour=3;");
        x.see(0, 4, true);
        x.see(1, 4, false);
        x.see(0, 5, false);
        x.image();
        x.forget();
        x.see(1, 1, true);
        x.see(0, 1, true);
        CHECK.due("other things seen", x.whose(0), 0);
        x.restore();
        CHECK.due("seen as it was", x.whose(0), SO_WITHOUT);
        x.see(0, 3, true);
        CHECK.due("one more is seen", x.whose(0), 0);
        x.restore();
        CHECK.due("and isn't any more", x.whose(0), SO_WITHOUT);
    }

    private static void imageKeepsActs() {
        TwinLamps x = Check.street("home 0 0;lamp 0 99;");
        for (int i = 0; i < 42; i++) {
            x.trim(0, i);
        }
        x.image();
        for (int i = 0; i < 42; i++) {
            x.trim(0, 98 - i);
        }
        x.restore();
        CHECK.due("acts", x.count(11), 40);
        for (int i = 39; i >= 0; i--) {
            CHECK.due("undo()", x.undo(), i);
            CHECK.due("oil", x.lamp(0, 1), i + 1);
        }
        CHECK.due("restore() again", x.restore(), true);
        CHECK.due("oil", x.lamp(0, 1), 41);
        CHECK.due("undo()", x.undo(), 39);
        CHECK.due("oil", x.lamp(0, 1), 40);
    }

    private static void imageInPlaceOfAnother() {
        CHECK.sentence("AN IMAGE is kept, in place of another one.");
        TwinLamps x = Check.street(COUPLE);
        x.trim(0, 1);
        x.image();
        x.trim(0, 2);
        x.see(0, 1, true);
        x.image();
        x.trim(0, 3);
        x.forget();
        for (int i = 0; i < 3; i++) {
            CHECK.due("restore()", x.restore(), true);
            CHECK.due("oil", x.lamp(0, 1), 2);
            CHECK.due("acts", x.count(11), 2);
            CHECK.due("seen", x.count(12), 1);
            x.undo();
            x.undo();
            x.trim(1, 77);
            x.forget();
            x.see(1, 1, false);
            x.hours(0);
        }
        x.image();
        x.trim(1, 5);
        CHECK.due("restore()", x.restore(), true);
        CHECK.due("oil", x.lamp(1, 1), 77);
        CHECK.due("STATUS 1", x.count(15), 1);
        CHECK.due("undo()", x.undo(), 0);
        CHECK.due("oil as first of all", x.count(6), 18);
    }

    private static void imageIsNone() {
        CHECK.sentence("It is as the IMAGE again: true. False: there is none.");
        TwinLamps x = new TwinLamps();
        x.hours(5);
        CHECK.due("restore() without", x.restore(), false);
        CHECK.due("nothing changes", x.count(3), 5);
        x.image();
        x.hours(5);
        CHECK.due("restore()", x.restore(), true);
        CHECK.due("hour", x.count(3), 5);
        x.street(Check.feed(x, "!"));
        CHECK.due("a text with a fault leaves it", x.restore(), true);
        x.street(0);
        CHECK.due("a street takes it", x.restore(), false);
        CHECK.due("hour", x.count(3), 0);
    }
}
