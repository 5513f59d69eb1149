/** Part 1 of the document and promises 1 to 4, sentence by sentence: what stands at an edge, and what beyond it. */
final class TextEdgesTest {
    private static final Check CHECK = new Check();
    private static final int ALL_DAY = 0xFFFFFF;
    private static final String LAMPS = "home 0 0;lamp 0 1;lamp 0 1;lamp 0 1;lamp 0 1;";

    public static void main(String[] args) {
        newObject();
        tape();
        tapeThatIsFull();
        streetOfTheFirstBytes();
        streetAllAnew();
        streetWithAFault();
        streetThatIsRefused();
        placeOfTheFault();
        hoursOfTheDay();
        housesAndKinds();
        wakesAndSleeps();
        awakeHours();
        lampsOilAndTwins();
        longestTexts();
        words();
        numbers();
        signsAndBlanks();
        lines();
        expressions();
        reckoning();
        values();
        firstFault();
        textsThatEndTooSoon();
        tokensThatCannotStand();
        tooMuch();
        tooManyLines();
        tooDeep();
        tooManyNots();
        wordsThatAreNoValue();
        untold();
        twinsAlready();
        secondWants();
        CHECK.end();
    }

    // ---- promises 1 to 4

    private static void newObject() {
        CHECK.sentence("No HOUSES.");
        TwinLamps x = new TwinLamps();
        CHECK.due("count(0)", x.count(0), 0);
        CHECK.noSuch("house(0, 0)", () -> x.house(0, 0));
        CHECK.noSuch("sleep(0, 0, 0)", () -> x.sleep(0, 0, 0));
        CHECK.due("hours(1)", x.hours(1), 1);
        CHECK.sentence("`NONE = -1`: There is none.");
        CHECK.due("NONE", TwinLamps.NONE, -1);
    }

    private static void tape() {
        CHECK.sentence("Twenty bytes come behind the tape, of each number the highest first: how many it has;");
        TwinLamps x = new TwinLamps();
        CHECK.due("feed", x.feed(four("home"), four(" 01 "), four(" 022"), four(";tow"), four("er  ")), 20);
        CHECK.due("feed behind it", x.feed(four("0003"), four(" 4;a"), four("lley"), four(" 5 6"), four(";   ")), 40);
        CHECK.due("street(37)", x.street(37), 0);
        CHECK.due("count(0)", x.count(0), 3);
        CHECK.due("house(0, 2)", x.house(0, 2), 22);
        CHECK.due("house(1, 1)", x.house(1, 1), 3);
        CHECK.due("house(2, 2)", x.house(2, 2), 6);
        CHECK.due("feed of numbers below 0", x.feed(-1, 0x8000_0000, 0x20FF_2020, 0, -1), 20);
        CHECK.due("street(20)", x.street(20), 1);
        CHECK.due("fault()", x.fault(), 0);
        x.feed(0x2020_20A0, 0, 0, 0, 0);
        CHECK.due("a byte of 160 is no blank", x.street(4), 1);
        CHECK.due("fault()", x.fault(), 3);
    }

    private static void tapeThatIsFull() {
        CHECK.sentence("NONE, and none come, if it would have more than 600.");
        TwinLamps x = new TwinLamps();
        CHECK.due("length", Check.feed(x, " ".repeat(580) + "home 0003      0009;"), 600);
        CHECK.due("count(13)", x.count(13), 600);
        CHECK.due("feed", x.feed(four("!!!!"), 0, 0, 0, 0), -1);
        CHECK.due("feed again", x.feed(four("!!!!"), 0, 0, 0, 0), -1);
        CHECK.due("count(13)", x.count(13), 600);
        CHECK.due("STATUS", x.count(14) + x.count(15) + x.count(16), 0);
        CHECK.due("street(600)", x.street(600), 0);
        CHECK.due("house(0, 2)", x.house(0, 2), 9);
        CHECK.due("feed, the tape being empty", x.feed(0, 0, 0, 0, 0), 20);
        Check.feed(x, " ".repeat(560));
        CHECK.due("count(13)", x.count(13), 580);
        CHECK.due("feed up to 600", x.feed(0, 0, 0, 0, 0), 600);
        CHECK.due("feed beyond", x.feed(0, 0, 0, 0, 0), -1);
    }

    private static void streetOfTheFirstBytes() {
        CHECK.sentence("The tape's first n bytes (it is empty then) are a STREET, all anew: 0 (STATUS stays),");
        String text = "home 0 1;home 0 2;home 0 3;";
        for (int lines = 0; lines <= 3; lines++) {
            TwinLamps x = new TwinLamps();
            Check.feed(x, text);
            CHECK.due("street(" + 9 * lines + ")", x.street(9 * lines), 0);
            CHECK.due("count(0)", x.count(0), lines);
            CHECK.due("the tape is empty", x.count(13), 0);
            CHECK.due("STATUS 0", x.count(14), 0);
        }
        TwinLamps x = new TwinLamps();
        Check.feed(x, text);
        CHECK.due("street(26) ends ahead of a ;", x.street(26), 1);
        CHECK.due("the tape is empty", x.count(13), 0);
        Check.feed(x, text);
        CHECK.due("the whole tape, blanks too", x.street(40), 0);
        CHECK.due("count(0)", x.count(0), 3);
        CHECK.due("STATUS 0 stays", x.count(14), 1);
        CHECK.due("street(0) of an empty tape", x.street(0), 0);
        CHECK.due("count(0)", x.count(0), 0);
        cut("wants hours;", 10, 1, 10);
        cut("wants hours;", 11, 3, 6);
        cut("home 0 0;lamp 0 00991;", 18, 1, 18);
        cut("home 0 0;lamp 0 00991;", 20, 1, 20);
        cut("home 0 0;lamp 0 00991;", 21, 2, 16);
        cut("home 0 0    ;", 10, 1, 10);
        cut(" ".repeat(596) + "home", 600, 1, 600);
        cut(" ".repeat(594) + "home 1", 600, 1, 600);
    }

    /** What stands on the tape behind the first bytes counts for nothing, not for the last of their tokens either. */
    private static void cut(String text, int n, int fault, int place) {
        TwinLamps x = new TwinLamps();
        Check.feed(x, text);
        CHECK.due("street(" + n + ") of " + text, x.street(n), fault);
        CHECK.due("fault() of it", x.fault(), place);
    }

    private static void streetAllAnew() {
        CHECK.sentence("ACTS, what is SEEN, the image are gone.");
        TwinLamps x = Check.street("home 0 0;lamp 0 9;lamp 0 9;twins 0 1;wants 1;");
        x.hours(3);
        x.breaks(0);
        x.flick(0);
        x.see(0, 1, true);
        x.see(0, 0, true);
        x.image();
        CHECK.due("street", x.street(Check.feed(x, "tower 1 2;lamp 0 7;lamp 0 6;")), 0);
        CHECK.due("acts", x.count(11), 0);
        CHECK.due("undo()", x.undo(), -1);
        CHECK.due("seen", x.count(12), 0);
        CHECK.due("restore()", x.restore(), false);
        CHECK.due("the hour, lit, broken", x.count(3) + x.count(4) + x.count(5), 0);
        CHECK.due("alone", x.count(7), 3);
        CHECK.due("what a tower wants by custom", x.lamp(0, 6), Check.row(18, 24) | Check.row(0, 6));
        CHECK.due("STATUS 1 stays", x.count(15), 1);
        CHECK.due("STATUS 2 stays", x.count(16), 1);
        x.street(Check.feed(x, "home 0 0;lamp 0 9;wants not 0;"));
        x.street(Check.feed(x, "home 0 0;lamp 0 9;wants 0;"));
        CHECK.due("nothing is left of a longer rule", x.lamp(0, 6), 0);
    }

    private static void streetWithAFault() {
        CHECK.sentence("or the FAULT (all else stays, but STATUS).");
        TwinLamps x = Check.street("tower 0 0;lamp 0 9;lamp 0 9;twins 0 1;wants hour<3;");
        x.flick(0);
        x.see(0, 1, true);
        x.image();
        String[] texts = {"wants 1;home 0 0;lamp 0 5;!", "home 24 0;", "lamp 0 1;", LAMPS + "twins 0 0;", "wants 1;wants 1;"};
        for (int i = 0; i < texts.length; i++) {
            CHECK.due("street of " + texts[i], x.street(Check.feed(x, texts[i])), i + 1);
            CHECK.due("STATUS 0", x.count(14), i + 1);
            CHECK.due("houses", x.count(0), 1);
            CHECK.due("lamps", x.count(1), 2);
            CHECK.due("alone", x.count(7), 0);
            CHECK.due("lit", x.count(4), 3);
            CHECK.due("oil", x.count(6), 18);
            CHECK.due("the rule", x.lamp(0, 6), 7);
            CHECK.due("acts", x.count(11), 1);
            CHECK.due("seen", x.count(12), 1);
            CHECK.due("the tape is empty all the same", x.count(13), 0);
        }
        CHECK.due("undo()", x.undo(), 0);
        CHECK.due("restore()", x.restore(), true);
        CHECK.due("acts of the image", x.count(11), 1);
        CHECK.due("STATUS 0 of the image", x.count(14), 0);
    }

    private static void streetThatIsRefused() {
        CHECK.sentence("IllegalArgumentException: the tape has not so many, n below 0 (nothing changes).");
        TwinLamps x = Check.street("home 0 0;");
        x.image();
        Check.feed(x, "home 9 9;home 8 8;");
        x.street(17);
        Check.feed(x, "home 1 1;home 2 2;");
        for (int n : new int[] {21, 600, 601, Integer.MAX_VALUE, -1, Integer.MIN_VALUE}) {
            CHECK.illegal("street(" + n + ")", () -> x.street(n));
            CHECK.due("the tape", x.count(13), 20);
            CHECK.due("the place of the fault", x.fault(), 17);
            CHECK.due("houses", x.count(0), 1);
            CHECK.due("STATUS 0", x.count(14), 1);
        }
        CHECK.due("the image stays", x.restore(), true);
        CHECK.due("street(20), as many as the tape has", x.street(20), 0);
        CHECK.due("houses", x.count(0), 2);
        CHECK.illegal("street(1) of an empty tape", () -> x.street(1));
        CHECK.due("street(0) of an empty tape", x.street(0), 0);
    }

    private static void placeOfTheFault() {
        CHECK.sentence("The place of the latest street()'s FAULT; NONE without.");
        TwinLamps x = new TwinLamps();
        CHECK.due("fault() without a street", x.fault(), -1);
        x.street(Check.feed(x, "  !"));
        CHECK.due("fault()", x.fault(), 2);
        x.image();
        x.street(Check.feed(x, "home 0 0; home 24 0;"));
        CHECK.due("fault() of the latest", x.fault(), 15);
        x.restore();
        CHECK.due("no image keeps it", x.fault(), 15);
        x.street(Check.feed(x, "home 0 0;"));
        CHECK.due("fault() without", x.fault(), -1);
        x.street(Check.feed(x, " ".repeat(599) + "!"));
        CHECK.due("fault() at the last byte", x.fault(), 599);
        x.street(Check.feed(x, "home 0 0" + " ".repeat(592)));
        CHECK.due("fault() behind the last byte", x.fault(), 600);
    }

    // ---- terms

    private static void hoursOfTheDay() {
        CHECK.sentence("HOURS are counted from 0; the hour of the day is HOUR MOD 24.");
        TwinLamps x = Check.street("home 23 1;lamp 0 0;wants hour=0;");
        CHECK.due("count(3)", x.count(3), 0);
        for (int hour = 0; hour < 50; hour++) {
            CHECK.due("at " + hour + " lamp(0, 5)", x.lamp(0, 5), hour % 24 == 0 ? 1 : 0);
            CHECK.due("at " + hour + " count(10)", x.count(10), hour % 24 == 0 || hour % 24 == 23 ? 1 : 0);
            x.hours(1);
        }
    }

    private static void housesAndKinds() {
        CHECK.sentence("HOUSES 0, 1 .. (at most 8): a KIND (0 home, 1 tower, 2 alley, 3 ballroom),");
        TwinLamps x = Check.street("home 0 0;tower 0 0;alley 0 0;ballroom 0 0;ballroom 0 0;alley 0 0;tower 0 0;home 0 7;");
        int[] kinds = {0, 1, 2, 3, 3, 2, 1, 0};
        CHECK.due("count(0)", x.count(0), 8);
        for (int house = 0; house < 8; house++) {
            CHECK.due("house(" + house + ", 0)", x.house(house, 0), kinds[house]);
        }
        CHECK.due("house(7, 2)", x.house(7, 2), 7);
        CHECK.noSuch("house(8, 0)", () -> x.house(8, 0));
        CHECK.faulty("home 0 0;".repeat(8) + "home 0 0;", 2, 72);
    }

    private static void wakesAndSleeps() {
        CHECK.sentence("WAKES, SLEEPS (0 to 23 both):");
        TwinLamps x = Check.street("home 0 23;home 23 0;home 23 23;home 0 0;");
        int[] wakes = {0, 23, 23, 0};
        int[] sleeps = {23, 0, 23, 0};
        for (int house = 0; house < 4; house++) {
            CHECK.due("house(" + house + ", 1)", x.house(house, 1), wakes[house]);
            CHECK.due("house(" + house + ", 2)", x.house(house, 2), sleeps[house]);
        }
        CHECK.faulty("home 24 0;", 2, 5);
        CHECK.faulty("home 0 24;", 2, 7);
    }

    private static void awakeHours() {
        CHECK.sentence("AWAKE in hours of the day from WAKES on to SLEEPS less 1,");
        awake(6, 22, Check.row(6, 22));
        awake(0, 23, Check.row(0, 23));
        awake(0, 1, Check.row(0, 1));
        awake(22, 23, Check.row(22, 23));
        CHECK.sentence("over midnight, if SLEEPS is less;");
        awake(22, 2, Check.row(22, 24) | Check.row(0, 2));
        awake(23, 0, Check.row(23, 24));
        awake(1, 0, Check.row(1, 24));
        awake(12, 11, ALL_DAY - Check.row(11, 12));
        CHECK.sentence("always, if both are one.");
        awake(0, 0, ALL_DAY);
        awake(7, 7, ALL_DAY);
        awake(23, 23, ALL_DAY);
    }

    /** The hours in which a house is awake: by the value in a rule, and by what is told of the next hour. */
    private static void awake(int wakes, int sleeps, int hours) {
        String name = "home " + wakes + " " + sleeps;
        TwinLamps x = Check.street(name + ";lamp 0 9;wants awake;");
        CHECK.due(name + " lamp(0, 6)", x.lamp(0, 6), hours);
        for (int hour = 0; hour < 26; hour++) {
            CHECK.due(name + " at " + hour, x.count(10), hours >> hour % 24 & 1);
            x.hours(1);
        }
    }

    private static void lampsOilAndTwins() {
        CHECK.sentence("LAMPS 0, 1 .. (at most 12): a HOUSE, OIL (0 to 99),");
        TwinLamps x = Check.street("home 0 0;home 0 0;lamp 1 0;lamp 0 99;" + "lamp 0 5;".repeat(9) + "lamp 1 98;twins 11 0;");
        CHECK.due("count(1)", x.count(1), 12);
        CHECK.due("lamp(0, 0)", x.lamp(0, 0), 1);
        CHECK.due("lamp(0, 1)", x.lamp(0, 1), 0);
        CHECK.due("lamp(1, 1)", x.lamp(1, 1), 99);
        CHECK.due("lamp(11, 1)", x.lamp(11, 1), 98);
        CHECK.noSuch("lamp(12, 0)", () -> x.lamp(12, 0));
        CHECK.faulty("home 0 0;" + "lamp 0 5;".repeat(12) + "lamp 0 5;", 2, 117);
        CHECK.faulty("home 0 0;lamp 0 100;", 2, 16);
        CHECK.sentence("a TWIN (another LAMP, whose twin it is; or none: a singleton).");
        CHECK.due("lamp(0, 2)", x.lamp(0, 2), 11);
        CHECK.due("lamp(11, 2)", x.lamp(11, 2), 0);
        CHECK.due("lamp(1, 2)", x.lamp(1, 2), -1);
        CHECK.faulty(LAMPS + "twins 2 2;", 4, 53);
    }

    private static void longestTexts() {
        CHECK.sentence("A TEXT of at most 600 bytes tells it.");
        String head = "home 0 0;lamp 0 1;wants 286=";
        String sum = "1+".repeat(285) + "1;";
        TwinLamps x = Check.street(head + sum);
        CHECK.due("length", head.length() + sum.length(), 600);
        CHECK.due("a sum of 286", x.lamp(0, 6), ALL_DAY);
        TwinLamps y = Check.street("home 0 0;lamp 0 1;wants  285=" + "1+".repeat(284) + "1;");
        CHECK.due("a sum of 285", y.lamp(0, 6), ALL_DAY);
        TwinLamps z = Check.street("home 0 0;lamp 0 1;wants " + "not 0 and ".repeat(57) + "0=0+1;");
        CHECK.due("an and of 58", z.lamp(0, 6), 0);
        CHECK.faulty(" ".repeat(599) + "1", 1, 599);
    }

    private static void words() {
        CHECK.sentence("TOKENS: words (a .. z, the longest row),");
        CHECK.faulty("homelamp 0 0;", 1, 0);
        CHECK.faulty("homes 0 0;", 1, 0);
        CHECK.faulty("hom 0 0;", 1, 0);
        CHECK.faulty("hom e 0 0;", 1, 0);
        CHECK.faulty("come 0 0;", 1, 0);
        CHECK.faulty("hose 0 0;", 1, 0);
        CHECK.faulty("homa 0 0;", 1, 0);
        CHECK.faulty("wants 1 oror 0;", 1, 8);
        CHECK.faulty("wants nothour;", 3, 6);
        CHECK.faulty("wants hours;", 3, 6);
        CHECK.faulty("wants a;", 3, 6);
        CHECK.faulty("wants z;", 3, 6);
        CHECK.faulty("wants `;", 1, 6);
        CHECK.faulty("wants {;", 1, 6);
        CHECK.faulty("wants Z;", 1, 6);
        CHECK.faulty("home`0 0;", 1, 4);
        CHECK.faulty("home{0 0;", 1, 4);
        CHECK.faulty("homE 0 0;", 1, 0);
        CHECK.fine("home0 0;lamp0 1;lamp0 1;twins0 1;wants1or1and not0;");
    }

    private static void numbers() {
        CHECK.sentence("NUMBERS (1 to 4 digits),");
        CHECK.fine("home 0 0;home 00 00;home 000 000;home 0000 0023;");
        CHECK.fine("home 0 0;lamp 0000 0099;wants 9999;");
        CHECK.faulty("home 00000 0;", 2, 5);
        CHECK.faulty("wants 00000;", 2, 6);
        CHECK.faulty("home 1 2 3;", 1, 9);
        CHECK.faulty("home 1/2;", 1, 6);
        CHECK.faulty("home 1:2;", 1, 6);
        CHECK.faulty("home 12;", 1, 7);
        TwinLamps x = Check.street("home 0009 0010;");
        CHECK.due("house(0, 1)", x.house(0, 1), 9);
        CHECK.due("house(0, 2)", x.house(0, 2), 10);
        gives("9999=1111*9", ALL_DAY);
    }

    private static void signsAndBlanks() {
        CHECK.sentence("signs ; ( ) + - * / < = ; blanks (32, 10) between them count for nothing.");
        for (int sign = 0; sign < 256; sign++) {
            boolean blank = sign == 32 || sign == 10;
            boolean digit = sign >= '0' && sign <= '9';
            boolean joins = "+-*/<=".indexOf(sign) >= 0;
            String text = "wants 1" + (char) sign + "+1;";
            TwinLamps x = new TwinLamps();
            CHECK.due("street of byte " + sign, x.street(Check.feed(x, text)), blank || digit ? 0 : 1);
            CHECK.due("fault() of byte " + sign, x.fault(), blank || digit ? -1 : sign == ';' || joins ? 8 : 7);
        }
        for (int sign = 0; sign < 256; sign++) {
            boolean blank = sign == 32 || sign == 10;
            boolean digit = sign >= '0' && sign <= '9';
            boolean letter = sign >= 'a' && sign <= 'z';
            TwinLamps x = new TwinLamps();
            CHECK.due("byte " + sign + " alone", x.street(Check.feed(x, "" + (char) sign)), blank ? 0 : 1);
            CHECK.due("fault() of it", x.fault(), blank ? -1 : 0);
            int fault = digit ? 0 : letter ? 3 : 1;
            CHECK.due("byte " + sign + " as a part", x.street(Check.feed(x, "wants " + (char) sign + ";")), fault);
            CHECK.due("fault() of it", x.fault(), digit ? -1 : blank || sign == '(' ? 7 : 6);
        }
        CHECK.fine("\n\n home\n1 \n 2 ; \nwants(1+2)*3-4/5<6;");
        CHECK.fine("home 1 2;lamp 0 3;wants(hour+1)*2-3/4=5;");
        CHECK.fine("     ");
        CHECK.fine("\n");
    }

    private static void lines() {
        CHECK.sentence("STREET: LINE*. LINE: (('home' | 'tower' | 'alley' | 'ballroom') WAKES SLEEPS | 'lamp' HOUSE OIL"
            + " | 'twins' LAMP LAMP | 'wants' EXPR) ';', all in capitals but EXPR being NUMBERS.");
        CHECK.fine("");
        CHECK.fine("wants 1;");
        CHECK.fine("wants 1;home 0 0;");
        CHECK.fine("home 0 0;lamp 0 1;home 0 0;lamp 1 1;twins 0 1;wants 1;lamp 0 1;");
        CHECK.faulty(";", 1, 0);
        CHECK.faulty("1;", 1, 0);
        CHECK.faulty("(home 0 0;", 1, 0);
        for (String line : new String[] {"home", "tower", "alley", "ballroom", "lamp", "twins"}) {
            String two = LAMPS + line;
            int at = two.length();
            CHECK.faulty(two + ";", 1, at);
            CHECK.faulty(two + " 0;", 1, at + 2);
            CHECK.faulty(two + " 0 1 1;", 1, at + 5);
            CHECK.faulty(two + " 0 1,", 1, at + 4);
            CHECK.faulty(two + " 0 1 wants 1;", 1, at + 5);
            CHECK.faulty(two + " -0 1;", 1, at + 1);
            CHECK.faulty(two + " hour 1;", 1, at + 1);
            CHECK.faulty(two + " 0 hour;", 1, at + 3);
            CHECK.faulty(two + " (0) 1;", 1, at + 1);
            CHECK.fine(two + " 0 1;");
        }
    }

    private static void expressions() {
        CHECK.sentence("EXPR: AND ('or' AND)*. AND: NOT ('and' NOT)*. NOT: 'not' NOT | SUM [('<' | '=') SUM]."
            + " SUM: PRODUCT (('+' | '-') PRODUCT)*. PRODUCT: PART (('*' | '/') PART)*. PART: NUMBER | VALUE | '(' EXPR ')'.");
        gives("1 or 1 and 0", ALL_DAY);
        gives("0 and 1 or 1", ALL_DAY);
        gives("0 and (1 or 1)", 0);
        gives("not 1 and 0", 0);
        gives("not (1 and 0)", ALL_DAY);
        gives("not 1 or 1", ALL_DAY);
        gives("not 0<0", ALL_DAY);
        gives("not 2=1", ALL_DAY);
        gives("(not 2)=0", ALL_DAY);
        gives("not 0+1", 0);
        gives("2+3<2*3", ALL_DAY);
        gives("6=2+2*2", ALL_DAY);
        gives("8=(2+2)*2", ALL_DAY);
        gives("1<2 and 2<3", ALL_DAY);
        gives("1 and 2=2", ALL_DAY);
        gives("(1<2)<3", ALL_DAY);
        gives("(3<2)=0", ALL_DAY);
        CHECK.faulty("wants 1<2<3;", 1, 9);
        CHECK.faulty("wants 1=1=1;", 1, 9);
        CHECK.faulty("wants 1<2=1;", 1, 9);
        CHECK.faulty("wants not;", 1, 9);
        CHECK.faulty("wants 1 not;", 1, 8);
        CHECK.faulty("wants -1;", 1, 6);
        CHECK.faulty("wants 1+-1;", 1, 8);
        CHECK.faulty("wants ();", 1, 7);
        CHECK.faulty("wants (1;", 1, 8);
        CHECK.faulty("wants 1);", 1, 7);
        CHECK.faulty("wants 1 1;", 1, 8);
        CHECK.faulty("wants (1)(1);", 1, 9);
        CHECK.faulty("wants hour hour;", 1, 11);
    }

    private static void reckoning() {
        CHECK.sentence("From the left; ints that wrap, / cut down to 0, by 0 gives 0;"
            + " tests, not, and, or are 1 or 0 (what isn't 0 holds).");
        gives("9-4-3=2", ALL_DAY);
        gives("64/8/4=2", ALL_DAY);
        gives("64/8*4=32", ALL_DAY);
        gives("3*7/2=10", ALL_DAY);
        gives("5-3+2=4", ALL_DAY);
        gives("0<8192*8192*16", ALL_DAY);
        gives("8192*8192*32<0", ALL_DAY);
        gives("8192*8192*64=0", ALL_DAY);
        gives("0<8192*8192*32-1", ALL_DAY);
        gives("(0-8192*8192*32)/(0-1)<0", ALL_DAY);
        gives("7/2=3", ALL_DAY);
        gives("(0-7)/2=0-3", ALL_DAY);
        gives("7/(0-2)=0-3", ALL_DAY);
        gives("(0-7)/(0-2)=3", ALL_DAY);
        gives("(0-1)/2=0", ALL_DAY);
        gives("5/0=0", ALL_DAY);
        gives("0/0=0", ALL_DAY);
        gives("(0-5)/(1-1)=0", ALL_DAY);
        gives("(1<2)+(2=2)=2", ALL_DAY);
        gives("(2<1)+(2<2)+(1=2)=0", ALL_DAY);
        gives("(not 0)+(not 9)+(not(0-9))=1", ALL_DAY);
        gives("(5 and 7)+(5 and 0)+(0 and 7)+(0 and 0)=1", ALL_DAY);
        gives("(5 or 7)+(5 or 0)+(0 or 7)+(0 or 0)=3", ALL_DAY);
        gives("((0-5) and (0-7))+((0-5) or 0)=2", ALL_DAY);
    }

    private static void values() {
        CHECK.sentence("VALUES of a LAMP in an HOUR: 'hour' (of the day), 'kind' (of its HOUSE), 'oil', 'house',"
            + " 'lamps' (how many its HOUSE has), 'awake' (1, if its HOUSE is, else 0).");
        for (int hour = 0; hour < 24; hour++) {
            gives("hour=" + hour, 1 << hour);
        }
        gives("23<hour", 0);
        gives("hour<0", 0);
        gives("kind=2", ALL_DAY);
        gives("oil=99", ALL_DAY);
        gives("house=1", ALL_DAY);
        gives("lamps=3", ALL_DAY);
        gives("awake=1", Check.row(22, 24) | Check.row(0, 2));
        gives("awake=0", Check.row(2, 22));
        TwinLamps x = Check.street("home 0 0;tower 5 6;ballroom 0 0;lamp 0 0;lamp 1 7;wants kind*1000+oil*100+house*10+lamps=hour;");
        CHECK.due("0, 0, 0 and 1", x.lamp(0, 6), 1 << 1);
        x.trim(1, 0);
        CHECK.due("1000 and so on", x.lamp(1, 6), 0);
        x.give(1, 0);
        CHECK.due("two lamps then, the first one", x.lamp(0, 6), 1 << 2);
        CHECK.due("two lamps then, the other one", x.lamp(1, 6), 1 << 2);
        TwinLamps y = Check.street("home 0 0;lamp 0 9;wants hour=1;");
        y.hours(24);
        CHECK.due("'hour' at 24 is 0", y.lamp(0, 5), 0);
        y.hours(1);
        CHECK.due("'hour' at 25 is 1", y.lamp(0, 5), 1);
    }

    // ---- faults

    private static void firstFault() {
        CHECK.sentence("FAULTS, the first along the text, at a TOKEN's first byte, of one TOKEN the least:");
        CHECK.faulty("home 24 12345;!", 2, 5);
        CHECK.faulty("lamp 0 100;home 24 0;", 3, 5);
        CHECK.faulty("home 1 1;twins 0 0;wants 1;wants 1;", 3, 15);
        CHECK.faulty("wants 1;wants 12345;", 5, 8);
        CHECK.faulty("wants 1 foo;", 1, 8);
        CHECK.faulty("home 1 123456789;", 2, 7);
        CHECK.faulty("  home 1 2;  tower", 1, 18);
        CHECK.faulty("home 1 2 12345;", 1, 9);
        CHECK.faulty("lamp 12345 1;", 2, 5);
        CHECK.faulty("twins 12345 1;", 2, 6);
        CHECK.faulty(LAMPS + "twins 0 1;twins 12345 1;", 2, 61);
        CHECK.faulty("wants 1 wants 1;", 1, 8);
        CHECK.faulty("home 0 0;".repeat(8) + "lamp home", 1, 77);
        CHECK.faulty("wants ((((((nothing", 2, 12);
    }

    /** A text of tokens, cut behind each of them: what is due next isn't there. */
    private static void textsThatEndTooSoon() {
        CHECK.sentence("1 a TOKEN that can't stand there, or is none (the text's length where it ends too soon);");
        String[] tokens = {"home", " 1", " 2", ";", "lamp", " 0", " 3", ";", "lamp", " 0", " 4", ";", "twins", " 0", " 1", ";",
            "wants", " not", " (", " 1", " +", " hour", " *", " 3", " <", " 4", " or", " oil", " and", " 2", " )", ";"};
        StringBuilder text = new StringBuilder();
        for (String token : tokens) {
            text.append(token);
            if (token.equals(";")) {
                CHECK.fine(text.toString());
                CHECK.fine(text + " \n ");
            } else {
                CHECK.faulty(text.toString(), 1, text.length());
                CHECK.faulty(text + " ", 1, text.length() + 1);
                CHECK.faulty(text + "\n \n", 1, text.length() + 3);
            }
        }
        CHECK.faulty("wants ((((((", 1, 12);
        CHECK.faulty("wants not not not not not not", 1, 29);
    }

    private static void tokensThatCannotStand() {
        CHECK.sentence("1 a TOKEN that can't stand there, or is none");
        for (String token : new String[] {";", "7", "12345", "(", ")", "+", "-", "*", "/", "<", "=", "hour", "or", "foo", "!", "A"}) {
            CHECK.faulty(token, 1, 0);
            CHECK.faulty("home 0 0; " + token, 1, 10);
        }
        for (String token : new String[] {"7", "12345", "(", ")", "+", "-", "*", "/", "<", "=", "hour", "wants", "home", "foo", "!"}) {
            CHECK.faulty("home 0 0 " + token, 1, 9);
            CHECK.faulty(LAMPS + "twins 0 1 " + token, 1, 55);
        }
        for (String token : new String[] {"7", "12345", "(", "hour", "not", "wants", "home", "foo", "!"}) {
            CHECK.faulty("wants 1 " + token, 1, 8);
            CHECK.faulty("wants (1) " + token, 1, 10);
            CHECK.faulty("wants (1 " + token, 1, 9);
            CHECK.faulty("wants hour " + token, 1, 11);
        }
        for (String token : new String[] {";", ")", "+", "-", "*", "/", "<", "=", "!", "A"}) {
            for (String head : new String[] {"wants ", "wants (", "wants not ", "wants 1+", "wants 1-", "wants 1*", "wants 1/",
                "wants 1<", "wants 1=", "wants 1 and ", "wants 1 or "}) {
                CHECK.faulty(head + token, 1, head.length());
            }
        }
        CHECK.faulty("wants (1;", 1, 8);
        CHECK.faulty("wants 1)", 1, 7);
    }

    private static void tooMuch() {
        CHECK.sentence("2 one that can, but is too much: a NUMBER of 5 digits or more, or (not in an EXPR) not as told,");
        CHECK.faulty("home 00001 0;", 2, 5);
        CHECK.faulty("home 0 00001;", 2, 7);
        CHECK.faulty("lamp 00000 0;", 2, 5);
        CHECK.faulty("home 0 0;lamp 0 00000;", 2, 16);
        CHECK.faulty(LAMPS + "twins 00000 1;", 2, 51);
        CHECK.faulty(LAMPS + "twins 0 00001;", 2, 53);
        CHECK.faulty("wants 10000;", 2, 6);
        CHECK.faulty("wants 1+00001;", 2, 8);
        CHECK.faulty("wants 1 or (99999999999999999999);", 2, 12);
        CHECK.faulty("home 24 0;", 2, 5);
        CHECK.faulty("home 9999 0;", 2, 5);
        CHECK.faulty("tower 0 24;", 2, 8);
        CHECK.faulty("ballroom 23 9999;", 2, 12);
        CHECK.faulty("alley 0 0;lamp 0 100;", 2, 17);
        CHECK.faulty("alley 0 0;lamp 0 9999;", 2, 17);
        CHECK.fine("wants 24+100+9999;");
        CHECK.fine("home 23 23;lamp 0 99;");
    }

    private static void tooManyLines() {
        CHECK.sentence("the first TOKEN of the 9th HOUSE, the 13th LAMP,");
        String houses = "home 0 0;tower 0 0;alley 0 0;ballroom 0 0;".repeat(2);
        for (String kind : new String[] {"home", "tower", "alley", "ballroom"}) {
            CHECK.faulty(houses + kind + " 0 0;", 2, houses.length());
            CHECK.faulty(houses + kind, 2, houses.length());
            CHECK.faulty(houses + kind + " 24", 2, houses.length());
        }
        CHECK.fine(houses + "lamp 7 1;");
        String lamps = "home 0 0;" + "lamp 0 1;".repeat(12);
        CHECK.faulty(lamps + "lamp 0 1;", 2, lamps.length());
        CHECK.faulty(lamps + "lamp", 2, lamps.length());
        CHECK.faulty(lamps + "lamp 9 1;", 2, lamps.length());
        CHECK.fine(lamps + "home 0 0;twins 11 10;");
    }

    private static void tooDeep() {
        CHECK.sentence("of an EXPR within 6 others (a NUMBER, any word, a parenthesis),");
        CHECK.fine("wants (((((1)))));");
        CHECK.fine("wants (((((not not not not not not 1)))));");
        String six = "wants ((((((";
        for (String first : new String[] {"1", "12345", "hour", "not", "or", "and", "home", "wants", "foo", "("}) {
            CHECK.faulty(six + first, 2, 12);
            CHECK.faulty(six + " " + first, 2, 13);
        }
        for (String first : new String[] {")", ";", "+", "-", "*", "/", "<", "=", "!"}) {
            CHECK.faulty(six + first, 1, 12);
        }
        CHECK.faulty(six, 1, 12);
        CHECK.fine("wants (((((1)))))+(((((1)))))*(((((1)))));");
        CHECK.faulty("wants (((((1)))))+((((((1))))));", 2, 24);
        CHECK.faulty("wants 1 or 1 and not 1<1+1*((((((hour))))));", 2, 33);
        gives("(((((1)))))", ALL_DAY);
    }

    private static void tooManyNots() {
        CHECK.sentence("the seventh 'not' side by side;");
        String six = "not not not not not not ";
        CHECK.fine("wants " + six + "1;");
        CHECK.faulty("wants " + six + "not 1;", 2, 30);
        CHECK.faulty("wants " + six + "not", 2, 30);
        CHECK.faulty("wants " + six + "nothing", 3, 30);
        CHECK.fine("wants " + six + "(" + six + "1);");
        CHECK.fine("wants " + six + "1 and " + six + "1 or " + six + "1;");
        CHECK.faulty("wants 1 and " + six + "not 1;", 2, 36);
        CHECK.faulty("wants(" + six + "\nnot\n1);", 2, 31);
        gives(six + "7", ALL_DAY);
        gives("not not not not not 7", 0);
    }

    private static void wordsThatAreNoValue() {
        CHECK.sentence("3 any word where a PART must stand that is no VALUE, a HOUSE, a LAMP that isn't told ahead;");
        String[] words = {"home", "tower", "alley", "ballroom", "lamp", "twins", "wants", "or", "and", "a", "zz", "hours", "aw"};
        String[] heads = {"wants ", "wants(", "wants not ", "wants 1+", "wants 1-", "wants 1*", "wants 1/", "wants 1<", "wants 1=",
            "wants 1 and ", "wants 1 or ", "wants 1 and not "};
        for (String head : heads) {
            for (String word : words) {
                CHECK.faulty(head + word, 3, head.length());
                CHECK.faulty(head + word + ";", 3, head.length());
            }
            boolean sum = "+-*/<=".indexOf(head.charAt(head.length() - 1)) >= 0;
            CHECK.faulty(head + "not", sum ? 3 : 1, sum ? head.length() : head.length() + 3);
        }
        CHECK.faulty("wants or or or;", 3, 6);
    }

    private static void untold() {
        CHECK.sentence("a HOUSE, a LAMP that isn't told ahead;");
        CHECK.faulty("lamp 0 1;home 0 0;", 3, 5);
        CHECK.faulty("home 0 0;lamp 1 1;home 0 0;", 3, 14);
        CHECK.fine("home 0 0;home 0 0;lamp 1 1;");
        CHECK.faulty("home 0 0;".repeat(8) + "lamp 8 1;", 3, 77);
        CHECK.fine("home 0 0;".repeat(8) + "lamp 7 1;");
        CHECK.faulty("lamp 9999 1;", 3, 5);
        CHECK.faulty("lamp 0 100;", 3, 5);
        CHECK.faulty("home 0 0;twins 0 0;", 3, 15);
        CHECK.faulty("home 0 0;lamp 0 1;twins 1 0;lamp 0 1;", 3, 24);
        CHECK.faulty("home 0 0;lamp 0 1;twins 0 1;lamp 0 1;", 3, 26);
        CHECK.fine("home 0 0;lamp 0 1;lamp 0 1;twins 0 1;");
        CHECK.faulty(LAMPS + "twins 4 0;", 3, 51);
        CHECK.faulty(LAMPS + "twins 3 4;", 3, 53);
        CHECK.fine(LAMPS + "twins 3 2;");
        CHECK.faulty(LAMPS + "twins 9999 0;", 3, 51);
        CHECK.faulty(LAMPS + "twins 0 9999;", 3, 53);
        CHECK.faulty("home 0 0;" + "lamp 0 1;".repeat(12) + "twins 11 12;", 3, 126);
    }

    private static void twinsAlready() {
        CHECK.sentence("4 a LAMP that has a TWIN already, the second one of 'twins' that is the first one;");
        CHECK.faulty(LAMPS + "twins 0 1;twins 0 2;", 4, 61);
        CHECK.faulty(LAMPS + "twins 0 1;twins 1 2;", 4, 61);
        CHECK.faulty(LAMPS + "twins 0 1;twins 2 0;", 4, 63);
        CHECK.faulty(LAMPS + "twins 0 1;twins 2 1;", 4, 63);
        CHECK.faulty(LAMPS + "twins 0 1;twins 0 0;", 4, 61);
        CHECK.faulty(LAMPS + "twins 0 1;twins 1 9;", 4, 61);
        CHECK.faulty(LAMPS + "twins 0 1;twins 1", 4, 61);
        CHECK.faulty(LAMPS + "twins 0 0;", 4, 53);
        CHECK.faulty(LAMPS + "twins 3 0003;", 4, 53);
        CHECK.fine(LAMPS + "twins 0 1;twins 3 2;");
    }

    private static void secondWants() {
        CHECK.sentence("5 a second 'wants'.");
        CHECK.faulty("wants 1;wants 1;", 5, 8);
        CHECK.faulty("wants 0;home 0 0; wants", 5, 18);
        CHECK.faulty("wants 1;wants!", 5, 8);
        CHECK.faulty("wants 1;home 0 0;wants 1;wants 1;", 5, 17);
        TwinLamps x = new TwinLamps();
        x.street(Check.feed(x, "wants 1;"));
        CHECK.due("each text has a first one", x.street(Check.feed(x, "wants 1;")), 0);
        x.street(Check.feed(x, "wants 1;!"));
        CHECK.due("behind a fault too", x.street(Check.feed(x, "wants 1;")), 0);
    }

    // ---- what these tests share

    private static int four(String text) {
        return text.charAt(0) << 24 | text.charAt(1) << 16 | text.charAt(2) << 8 | text.charAt(3);
    }

    /** In which hours an expression wants a lamp with 99 oil of an alley, awake from 22 to 1, which has three. */
    private static void gives(String expression, int hours) {
        TwinLamps x = Check.street("home 0 0;alley 22 2;lamp 1 99;lamp 1 3;lamp 1 3;lamp 0 2;wants " + expression + ";");
        CHECK.due("wants " + expression, x.lamp(0, 6), hours);
    }
}
