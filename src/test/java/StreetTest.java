/** Promises 1 to 4: a new object, the tape, the street, its faults; and what a rule gives. */
final class StreetTest {
    private static final Check CHECK = new Check();
    private static final int ALWAYS = 0xFFFFFF;
    private static final int NEVER = 0;
    private static final String TWO_LAMPS = "home 0 0;lamp 0 1;lamp 0 1;";

    public static void main(String[] args) {
        aNewObject();
        feeding();
        streetsFromTheTape();
        linesWithoutFault();
        faultsOfTokens();
        faultsOfNumbers();
        faultsOfTwins();
        faultsOfExpressions();
        faultsOfNests();
        whatAFaultLeaves();
        whatAStreetClears();
        whatRulesGive();
        whatIsCustomary();
        CHECK.end();
    }

    private static void aNewObject() {
        TwinLamps x = new TwinLamps();
        for (int what = 0; what <= 16; what++) {
            CHECK.due("new count(" + what + ")", x.count(what), 0);
        }
        CHECK.due("new fault()", x.fault(), -1);
        CHECK.due("new undo()", x.undo(), -1);
        CHECK.due("new restore()", x.restore(), false);
        CHECK.noSuch("new house(0, 0)", () -> x.house(0, 0));
        CHECK.noSuch("new lamp(0, 0)", () -> x.lamp(0, 0));
        CHECK.due("NONE", TwinLamps.NONE, -1);
    }

    private static void feeding() {
        TwinLamps x = new TwinLamps();
        for (int fed = 20; fed <= 600; fed += 20) {
            CHECK.due("feed", x.feed(0x20202020, 0x20202020, 0x20202020, 0x20202020, 0x20202020), fed);
        }
        CHECK.due("feed beyond 600", x.feed(1, 2, 3, 4, 5), -1);
        CHECK.due("count(13)", x.count(13), 600);
        CHECK.due("street(600) of blanks", x.street(600), 0);
        CHECK.due("count(13) behind it", x.count(13), 0);
        CHECK.due("feed again", x.feed(1, 2, 3, 4, 5), 20);
        // "h" "o" "m" "e" are 0x68 0x6F 0x6D 0x65, the highest byte first
        TwinLamps y = new TwinLamps();
        y.feed(0x686F6D65, 0x20362032, 0x323B2020, 0x20202020, 0x20202020);
        CHECK.due("street home 6 22;", y.street(20), 0);
        CHECK.due("house(0, 1)", y.house(0, 1), 6);
        CHECK.due("house(0, 2)", y.house(0, 2), 22);
        TwinLamps z = new TwinLamps();
        z.feed(0x20FFFFFF, -1, -1, -1, -1);
        CHECK.due("street of bytes above 127", z.street(20), 1);
        CHECK.due("fault of bytes above 127", z.fault(), 1);
    }

    private static void streetsFromTheTape() {
        TwinLamps x = new TwinLamps();
        Check.feed(x, "home 1 2;tower 3 4;");
        CHECK.illegal("street(21) of 20", () -> x.street(21));
        CHECK.illegal("street(-1)", () -> x.street(-1));
        CHECK.due("tape behind a refused street", x.count(13), 20);
        CHECK.due("street(9)", x.street(9), 0);
        CHECK.due("houses of the first 9 bytes", x.count(0), 1);
        CHECK.due("tape behind a street", x.count(13), 0);
        CHECK.illegal("street(1) of an empty tape", () -> x.street(1));
        CHECK.due("houses behind a refused street", x.count(0), 1);
        CHECK.due("street(0)", x.street(0), 0);
        CHECK.due("houses of no bytes", x.count(0), 0);
        Check.feed(x, "!");
        CHECK.due("street(1) of !", x.street(1), 1);
        CHECK.due("tape behind a fault", x.count(13), 0);
        CHECK.illegal("street(1) behind a fault", () -> x.street(1));
        CHECK.due("fault() is of the latest street that was one", x.fault(), 0);
        CHECK.due("street(0) behind a fault", x.street(0), 0);
        CHECK.due("fault() without", x.fault(), -1);
    }

    private static void linesWithoutFault() {
        CHECK.fine("");
        CHECK.fine(" \n ");
        CHECK.fine("home 6 22;");
        CHECK.fine("home6 22;tower\n0\n0 ; alley 23 0;ballroom 0 23;");
        CHECK.fine("home 0006 0023;lamp 0 0;lamp 0000 0099;twins 1 0;");
        CHECK.fine("wants 1;home 0 0;");
        CHECK.fine("alley 0 0;".repeat(8));
        CHECK.fine("home 0 0;" + "lamp 0 1;".repeat(12));
        CHECK.fine("wants 9999;");
        CHECK.fine("wants not(not 0)+1<2 and hour*oil/house-lamps=kind or awake;");
    }

    private static void faultsOfTokens() {
        CHECK.faulty("x", 1, 0);
        CHECK.faulty(";", 1, 0);
        CHECK.faulty("Home 6 22;", 1, 0);
        CHECK.faulty("house 6 22;", 1, 0);
        CHECK.faulty("homes 6 22;", 1, 0);
        CHECK.faulty("hom", 1, 0);
        CHECK.faulty("home\t6 22;", 1, 4);
        CHECK.faulty("home\r\n6 22;", 1, 4);
        CHECK.faulty("home", 1, 4);
        CHECK.faulty("home 6", 1, 6);
        CHECK.faulty("home 6 22", 1, 9);
        CHECK.faulty("home 6 22 \n", 1, 11);
        CHECK.faulty("home 6;", 1, 6);
        CHECK.faulty("home 6 22 3;", 1, 10);
        CHECK.faulty("home 6 22;;", 1, 10);
        CHECK.faulty("home home 22;", 1, 5);
        CHECK.faulty("home -6 22;", 1, 5);
        CHECK.faulty("home 6 22; 7", 1, 11);
        CHECK.faulty("home 6 22 12345;", 1, 10);
        CHECK.faulty("lamp", 1, 4);
        CHECK.faulty("twins", 1, 5);
        CHECK.faulty("wants", 1, 5);
        CHECK.faulty("or;", 1, 0);
        CHECK.faulty("hour;", 1, 0);
        CHECK.faulty("home 6 22x;", 1, 9);
    }

    private static void faultsOfNumbers() {
        CHECK.faulty("home 24 0;", 2, 5);
        CHECK.faulty("home 23 24;", 2, 8);
        CHECK.faulty("home 00006 2;", 2, 5);
        CHECK.faulty("home 6 00002;", 2, 7);
        CHECK.faulty("home 99999999999999999999 2;", 2, 5);
        CHECK.faulty("alley 0 0;".repeat(9), 2, 80);
        CHECK.faulty("alley 0 0;".repeat(8) + "home", 2, 80);
        CHECK.faulty("home 0 0;" + "lamp 0 1;".repeat(13), 2, 117);
        CHECK.faulty("home 0 0;" + "lamp 0 1;".repeat(12) + "lamp !", 2, 117);
        CHECK.faulty("lamp 0 1;", 3, 5);
        CHECK.faulty("home 0 0;lamp 1 1;", 3, 14);
        CHECK.faulty("lamp 0 1;home 0 0;", 3, 5);
        CHECK.faulty("lamp 00000 1;", 2, 5);
        CHECK.faulty("home 0 0;lamp 0 100;", 2, 16);
        CHECK.faulty("home 0 0;lamp 0 00001;", 2, 16);
        CHECK.faulty("home 0 0;lamp 9 1;", 3, 14);
    }

    private static void faultsOfTwins() {
        CHECK.faulty("twins 0 0;", 3, 6);
        CHECK.faulty("home 0 0;lamp 0 1;twins 0 1;", 3, 26);
        CHECK.faulty("home 0 0;lamp 0 1;twins 1 0;", 3, 24);
        CHECK.faulty("home 0 0;lamp 0 1;twins 0 0;", 4, 26);
        CHECK.faulty(TWO_LAMPS + "twins 0 00001;", 2, 35);
        CHECK.faulty(TWO_LAMPS + "twins 0 1;twins 0 1;", 4, 43);
        CHECK.faulty(TWO_LAMPS + "lamp 0 1;twins 0 1;twins 2 1;", 4, 54);
        CHECK.faulty(TWO_LAMPS + "lamp 0 1;twins 0 1;twins 1 2;", 4, 52);
        CHECK.faulty(TWO_LAMPS + "twins 0 1;twins 2 0;", 3, 43);
        CHECK.faulty(TWO_LAMPS + "twins 0;", 1, 34);
    }

    private static void faultsOfExpressions() {
        CHECK.faulty("wants 1;wants 1;", 5, 8);
        CHECK.faulty("wants 1;wants", 5, 8);
        CHECK.faulty("wants ;", 1, 6);
        CHECK.faulty("wants foo;", 3, 6);
        CHECK.faulty("wants lamp;", 3, 6);
        CHECK.faulty("wants a;", 3, 6);
        CHECK.faulty("wants z;", 3, 6);
        CHECK.faulty("wants lampss;", 3, 6);
        CHECK.faulty("wants or;", 3, 6);
        CHECK.faulty("wants 1 or and;", 3, 11);
        CHECK.faulty("wants 1 foo;", 1, 8);
        CHECK.faulty("wants 1 not 2;", 1, 8);
        CHECK.faulty("wants 1 + not 2;", 3, 10);
        CHECK.faulty("wants 1 < not 2;", 3, 10);
        CHECK.faulty("wants 1 * home;", 3, 10);
        CHECK.faulty("wants not;", 1, 9);
        CHECK.faulty("wants not", 1, 9);
        CHECK.faulty("wants not twins;", 3, 10);
        CHECK.faulty("wants 10000;", 2, 6);
        CHECK.faulty("wants 1+00000;", 2, 8);
        CHECK.faulty("wants 1 10000;", 1, 8);
        CHECK.faulty("wants 1<2<3;", 1, 9);
        CHECK.faulty("wants 1=2<3;", 1, 9);
        CHECK.faulty("wants (1;", 1, 8);
        CHECK.faulty("wants (1", 1, 8);
        CHECK.faulty("wants 1);", 1, 7);
        CHECK.faulty("wants ();", 1, 7);
        CHECK.faulty("wants +1;", 1, 6);
        CHECK.faulty("wants 1 , 2;", 1, 8);
        CHECK.faulty("wants hour hour;", 1, 11);
        CHECK.faulty("wants 1", 1, 7);
    }

    private static void faultsOfNests() {
        CHECK.fine("wants not not not not not not 1;");
        CHECK.faulty("wants not not not not not not not 1;", 2, 30);
        CHECK.fine("wants not not not not not not(not 1);");
        CHECK.fine("wants not not not not not not 1 and not not 1 or not 1;");
        CHECK.fine("wants (((((1)))));");
        CHECK.faulty("wants ((((((1))))));", 2, 12);
        CHECK.faulty("wants ((((((10000", 2, 12);
        CHECK.faulty("wants ((((((foo", 2, 12);
        CHECK.faulty("wants ((((((or", 2, 12);
        CHECK.faulty("wants ((((((home", 2, 12);
        CHECK.faulty("wants ((((((awake", 2, 12);
        CHECK.faulty("wants ((((((not 1", 2, 12);
        CHECK.faulty("wants (((((((", 2, 12);
        CHECK.faulty("wants ((((((+", 1, 12);
        CHECK.faulty("wants (((((()", 1, 12);
        CHECK.faulty("wants ((((((!", 1, 12);
        CHECK.faulty("wants ((((((", 1, 12);
        CHECK.fine("wants (((((1)+(2))+(3))+(4))+(5))+(6);");
        CHECK.faulty("wants (1)+(((((1+(1))))));", 2, 18);
    }

    private static void whatAFaultLeaves() {
        TwinLamps x = Check.street("tower 0 0;lamp 0 9;wants hour<3;");
        x.flick(0);
        x.see(0, 1, true);
        x.image();
        CHECK.due("street with a fault", x.street(Check.feed(x, "home 0 0;home 0 24;")), 2);
        CHECK.due("fault()", x.fault(), 16);
        CHECK.due("STATUS 0", x.count(14), 1);
        CHECK.due("houses stay", x.count(0), 1);
        CHECK.due("the kind stays", x.house(0, 0), 1);
        CHECK.due("what is lit stays", x.count(4), 1);
        CHECK.due("acts stay", x.count(11), 1);
        CHECK.due("what is seen stays", x.count(12), 1);
        CHECK.due("the rule stays", x.lamp(0, 6), 7);
        x.street(Check.feed(x, "wants 1;?"));
        CHECK.due("the rule stays again", x.lamp(0, 6), 7);
        CHECK.due("STATUS 0 again", x.count(14), 2);
        CHECK.due("the image stays", x.restore(), true);
        CHECK.due("STATUS 0 as the image keeps it", x.count(14), 0);
    }

    private static void whatAStreetClears() {
        TwinLamps x = Check.street("tower 0 0;lamp 0 9;lamp 0 9;twins 0 1;wants hour<3;");
        x.hours(3);
        x.hours(0);
        x.breaks(1);
        x.see(0, 1, true);
        x.see(0, 0, true);
        x.image();
        CHECK.due("street", x.street(Check.feed(x, "home 0 0;lamp 0 5;lamp 0 5;")), 0);
        CHECK.due("the hour anew", x.count(3), 0);
        CHECK.due("lit anew", x.count(4), 0);
        CHECK.due("broken anew", x.count(5), 0);
        CHECK.due("singletons anew", x.count(7), 3);
        CHECK.due("acts are gone", x.count(11), 0);
        CHECK.due("seen is gone", x.count(12), 0);
        CHECK.due("the image is gone", x.restore(), false);
        CHECK.due("undo() of a new street", x.undo(), -1);
        CHECK.due("the rule is gone", x.lamp(0, 6), 0xFC003F);
        CHECK.due("STATUS 1 stays", x.count(15), 1);
        CHECK.due("STATUS 2 stays", x.count(16), 1);
    }

    private static void whatRulesGive() {
        gives("1", ALWAYS);
        gives("0", NEVER);
        gives("0-1", NEVER);
        gives("1+2*3=7", ALWAYS);
        gives("(1+2)*3=9", ALWAYS);
        gives("2-3-4=0-5", ALWAYS);
        gives("8/4/2=1", ALWAYS);
        gives("8/4*2=4", ALWAYS);
        gives("7/2=3", ALWAYS);
        gives("(0-7)/2=0-3", ALWAYS);
        gives("1/0=0", ALWAYS);
        gives("(5/(1-1))=0", ALWAYS);
        gives("9999*9999*9999<0", ALWAYS);
        gives("(0-8192*8192*32)/(0-1)=0-8192*8192*32", ALWAYS);
        gives("1<2", ALWAYS);
        gives("2<2", NEVER);
        gives("not 0", ALWAYS);
        gives("not 7", NEVER);
        gives("not(0-7)", NEVER);
        gives("not 5=0", ALWAYS);
        gives("not not 7=1", NEVER);
        gives("(not not 7)=1", ALWAYS);
        gives("(2 and 3)=1", ALWAYS);
        gives("2 and 0-3", ALWAYS);
        gives("(0 or 0-5)=1", ALWAYS);
        gives("(0 or 0)=0", ALWAYS);
        gives("1 or 0 and 0", ALWAYS);
        gives("(1 or 0) and 0", NEVER);
        gives("0 and 0 or 1", ALWAYS);
        gives("1<2+3", ALWAYS);
        gives("hour", ALWAYS - 1);
        gives("hour<6", 0x3F);
        gives("hour=23 or 3=hour", 1 << 23 | 8);
        gives("kind=3", ALWAYS);
        gives("oil=7", ALWAYS);
        gives("house=1", ALWAYS);
        gives("lamps=2", ALWAYS);
        gives("awake", 0xC00003);
        gives("(awake+1)/2*5=5", 0xC00003);
        gives("awake=0", ALWAYS & ~0xC00003);
    }

    private static void whatIsCustomary() {
        TwinLamps x = Check.street("home 12 22;tower 12 22;alley 12 22;ballroom 12 22;ballroom 0 0;home 0 0;"
                + "lamp 0 1;lamp 1 1;lamp 2 1;lamp 3 1;lamp 4 1;lamp 5 0;");
        CHECK.due("a home from 18 to 21", x.lamp(0, 6), 0x3C0000);
        CHECK.due("a tower, awake or not", x.lamp(1, 6), 0xFC003F);
        CHECK.due("an alley never", x.lamp(2, 6), 0);
        CHECK.due("a ballroom that sleeps from 22 on", x.lamp(3, 6), 0x3C0000);
        CHECK.due("a ballroom till 9", x.lamp(4, 6), 0xFC01FF);
        CHECK.due("a home always awake", x.lamp(5, 6), 0xFC003F);
    }

    /** In which hours a lamp of a ballroom, awake from 22 to 1, is wanted by this rule. */
    private static void gives(String expression, int hours) {
        TwinLamps x = Check.street("home 0 0;ballroom 22 2;lamp 1 7;lamp 1 3;wants " + expression + ";");
        CHECK.due("wants " + expression, x.lamp(0, 6), hours);
    }
}
