import java.nio.charset.StandardCharsets;
import java.util.Arrays;
import java.util.NoSuchElementException;

/** What the tests share: answers held against what is due, and streets told by a text. */
final class Check {
    private int wrong = 0;
    private int asked = 0;
    private String sentence = "";

    /** A call whose exception is looked for. */
    interface Call {
        void run();
    }

    /** The document's sentence that the answers from here on stand for; SentencesTest looks it up there. */
    void sentence(String text) {
        sentence = "\"" + text + "\" ";
    }

    void due(String call, long got, long want) {
        asked++;
        if (got != want) {
            wrong++;
            System.out.println(sentence + call + " answered " + got + ", due is " + want);
        }
    }

    void due(String call, boolean got, boolean want) {
        due(call, got ? 1 : 0, want ? 1 : 0);
    }

    void noSuch(String name, Call call) {
        throwsIt(name, call, NoSuchElementException.class);
    }

    void illegal(String name, Call call) {
        throwsIt(name, call, IllegalArgumentException.class);
    }

    private void throwsIt(String name, Call call, Class<?> due) {
        asked++;
        String got = "nothing";
        try {
            call.run();
        } catch (RuntimeException e) {
            if (e.getClass() == due) {
                return;
            }
            got = e.getClass().getName();
        }
        wrong++;
        System.out.println(sentence + name + " threw " + got + ", due is " + due.getName());
    }

    /** A street without a fault. */
    void fine(String text) {
        TwinLamps x = new TwinLamps();
        due("street of " + text, x.street(feed(x, text)), 0);
        due("fault() of " + text, x.fault(), -1);
        due("STATUS 0 of " + text, x.count(14), 0);
    }

    /** A street with a fault at a place; nothing comes of it. */
    void faulty(String text, int fault, int place) {
        TwinLamps x = new TwinLamps();
        due("street of " + text, x.street(feed(x, text)), fault);
        due("fault() of " + text, x.fault(), place);
        due("STATUS 0 of " + text, x.count(14), 1);
        due("houses of " + text, x.count(0), 0);
    }

    /** Ends the test: with exit code 1, if an answer was wrong. */
    void end() {
        System.out.println(wrong + " of " + asked + " answers were wrong");
        if (wrong != 0 || asked == 0) {
            System.exit(1);
        }
    }

    /** Hours of the day from one on to another one less 1, as bits. */
    static int row(int from, int to) {
        return (1 << to) - (1 << from);
    }

    /** Feeds a text, filled up with blanks to rows of twenty bytes; the length of the text itself. */
    static int feed(TwinLamps x, String text) {
        byte[] bytes = text.getBytes(StandardCharsets.ISO_8859_1);
        byte[] filled = Arrays.copyOf(bytes, (bytes.length + 19) / 20 * 20);
        Arrays.fill(filled, bytes.length, filled.length, (byte) ' ');
        for (int i = 0; i < filled.length; i += 20) {
            x.feed(four(filled, i), four(filled, i + 4), four(filled, i + 8), four(filled, i + 12), four(filled, i + 16));
        }
        return bytes.length;
    }

    private static int four(byte[] bytes, int at) {
        int number = 0;
        for (int i = at; i < at + 4; i++) {
            number = number << 8 | bytes[i] & 0xFF;
        }
        return number;
    }

    /** A new object with this street; it has to be without a fault. */
    static TwinLamps street(String text) {
        TwinLamps x = new TwinLamps();
        int fault = x.street(feed(x, text));
        if (fault != 0) {
            throw new IllegalStateException("fault " + fault + " at " + x.fault() + " of " + text);
        }
        return x;
    }
}
