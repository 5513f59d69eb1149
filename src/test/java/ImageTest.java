/** Promises 35 and 36: an image is kept, and all is as the image again. */
final class ImageTest {
    private static final Check CHECK = new Check();

    public static void main(String[] args) {
        noImage();
        allThatIsKept();
        againAndAgain();
        whatIsNotKept();
        CHECK.end();
    }

    private static void noImage() {
        TwinLamps x = Check.street("home 0 0;lamp 0 9;");
        x.flick(0);
        CHECK.due("restore()", x.restore(), false);
        CHECK.due("lit", x.count(4), 1);
        x.image();
        CHECK.due("restore() of an image", x.restore(), true);
        x.street(Check.feed(x, "home 0 0;"));
        CHECK.due("restore() behind a street", x.restore(), false);
    }

    private static void allThatIsKept() {
        TwinLamps x = Check.street("home 0 1;alley 2 3;lamp 0 9;lamp 0 8;lamp 1 7;twins 0 1;wants hour<0;");
        x.flick(2);
        x.breaks(1);
        x.trim(0, 100);
        x.see(0, 3, true);
        x.see(0, 0, true);
        x.hours(1);
        x.image();
        x.hours(5);
        x.flick(2);
        x.breaks(0);
        x.give(0, 1);
        x.trim(2, 55);
        x.sleep(0, 7, 8);
        x.hours(0);
        x.see(1, 1, false);
        x.see(1, 0, false);
        x.street(Check.feed(x, "!"));
        CHECK.due("restore()", x.restore(), true);
        CHECK.due("hour", x.count(3), 1);
        CHECK.due("lit", x.count(4), 4);
        CHECK.due("broken", x.count(5), 2);
        CHECK.due("oil of 2", x.lamp(2, 1), 6);
        CHECK.due("house of 0", x.lamp(0, 0), 0);
        CHECK.due("wakes", x.house(0, 1), 0);
        CHECK.due("sleeps", x.house(0, 2), 1);
        CHECK.due("acts", x.count(11), 3);
        CHECK.due("seen", x.count(12), 1);
        CHECK.due("STATUS 0", x.count(14), 0);
        CHECK.due("STATUS 1", x.count(15), 1);
        CHECK.due("STATUS 2", x.count(16), 1);
        CHECK.due("what is seen: not so", x.whose(2), 0);
        CHECK.due("undo()", x.undo(), 2);
        CHECK.due("hour", x.count(3), 0);
        CHECK.due("undo()", x.undo(), 1);
        CHECK.due("broken", x.count(5), 0);
        CHECK.due("undo()", x.undo(), 0);
        CHECK.due("lit", x.count(4), 0);
        CHECK.due("oil", x.count(6), 24);
    }

    private static void againAndAgain() {
        TwinLamps x = Check.street("home 0 0;lamp 0 9;");
        x.trim(0, 1);
        x.image();
        x.trim(0, 2);
        CHECK.due("restore()", x.restore(), true);
        CHECK.due("oil", x.lamp(0, 1), 1);
        x.trim(0, 3);
        x.trim(0, 4);
        CHECK.due("restore() again", x.restore(), true);
        CHECK.due("oil", x.lamp(0, 1), 1);
        CHECK.due("acts", x.count(11), 1);
        CHECK.due("undo()", x.undo(), 0);
        CHECK.due("oil", x.lamp(0, 1), 9);
        CHECK.due("restore() behind an undo", x.restore(), true);
        CHECK.due("acts", x.count(11), 1);
        for (int i = 0; i < 50; i++) {
            x.trim(0, i);
        }
        x.image();
        x.trim(0, 99);
        x.undo();
        x.undo();
        CHECK.due("restore() of another image", x.restore(), true);
        CHECK.due("oil", x.lamp(0, 1), 49);
        CHECK.due("acts", x.count(11), 40);
        for (int i = 39; i >= 0; i--) {
            CHECK.due("undo()", x.undo(), i);
            CHECK.due("oil", x.lamp(0, 1), i + 9);
        }
        CHECK.due("undo() without", x.undo(), -1);
    }

    private static void whatIsNotKept() {
        TwinLamps x = Check.street("home 0 0;lamp 0 9;");
        x.feed(0, 0, 0, 0, 0);
        x.image();
        x.feed(0, 0, 0, 0, 0);
        CHECK.due("restore()", x.restore(), true);
        CHECK.due("the tape stays", x.count(13), 40);
        CHECK.due("street of zeros", x.street(1), 1);
        CHECK.due("restore()", x.restore(), true);
        CHECK.due("the place of the fault stays", x.fault(), 0);
        CHECK.due("the tape stays empty", x.count(13), 0);
    }
}
