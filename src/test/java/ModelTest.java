import java.nio.charset.StandardCharsets;
import java.util.ArrayList;
import java.util.List;
import java.util.NoSuchElementException;
import java.util.Random;

/** Random runs of calls, each answer held against that of the model; all by seeds, so that each run is alike. */
final class ModelTest {
    private static final int RUNS = 1000;
    /** A run ends well within the 512 calls that an object is used for. */
    private static final int CALLS_OF_A_RUN = 410;
    private static final int TEXTS = 40000;
    private static final String[] WORDS = {"home", "tower", "alley", "ballroom", "lamp", "twins", "wants", "or", "and", "not",
        "hour", "kind", "oil", "house", "lamps", "awake", "foo", "x", "0", "1", "2", "7", "12", "23", "24", "99", "100", "9999",
        "10000", ";", "(", ")", "+", "-", "*", "/", "<", "=", ";", "(", "!", "A", "\t", "\u00e9"};
    private static final String[] OF_EXPRESSIONS = {"1", "hour", "not", "or", "and", "+", "*", "<", "=", "(", ")", ";", "x", "10000", "!",
        "wants"};
    private static final String[] OF_LINES = {"home", "lamp", "twins", "wants", "0", "2", "24", "100", "12345", ";", "hour", "!"};
    private static final String[] CALLS = {"count", "house", "lamp", "hours", "flick", "trim", "breaks", "give", "sleep",
        "undo", "then", "burnt", "shining", "soonest", "busiest", "lasts", "grief", "quarrels", "joined", "strife", "better",
        "treaty", "fund", "signals", "see", "whose", "look", "forget", "game", "winter", "image", "restore", "street", "fault",
        "flick", "hours", "give", "sleep", "trim", "see", "see", "whose", "look", "whose", "look", "game", "count", "count"};

    private final Random random;
    private final Model model = new Model();
    private final TwinLamps x = new TwinLamps();
    private final List<String> log = new ArrayList<>();
    private int calls = 0;

    private ModelTest(long seed) {
        random = new Random(seed);
    }

    public static void main(String[] args) {
        for (int run = 0; run < RUNS; run++) {
            new ModelTest(run).runOfCalls();
        }
        for (int text = 0; text < TEXTS; text++) {
            new ModelTest(-1 - text).text();
        }
        allShortTexts("wants ", OF_EXPRESSIONS, 4);
        allShortTexts("wants 1;wants ((((((", OF_EXPRESSIONS, 1);
        allShortTexts("wants ((((((", OF_EXPRESSIONS, 2);
        allShortTexts("wants (((((not not not not not not ", OF_EXPRESSIONS, 2);
        allShortTexts("home 0 0;lamp 0 1;lamp 0 1;lamp 0 1;lamp 0 1;twins 0 1;", OF_LINES, 4);
        allShortTexts("home 0 0;".repeat(8) + "lamp 7 1;".repeat(12), OF_LINES, 2);
        System.out.println("all answers as the model's");
    }

    /** Each row of at most so many of these tokens behind a text. */
    private static void allShortTexts(String text, String[] tokens, int most) {
        ModelTest test = new ModelTest(0);
        test.tell(text);
        test.both("count", 14);
        for (int i = 0; i < tokens.length && most > 0; i++) {
            allShortTexts(text + tokens[i] + " ", tokens, most - 1);
        }
    }

    private void runOfCalls() {
        both("count", 0);
        tell(street());
        while (calls < CALLS_OF_A_RUN) {
            if (random.nextInt(80) == 0) {
                tell(street());
            }
            String call = CALLS[random.nextInt(CALLS.length)];
            both(call, arguments(call));
            if (random.nextInt(10) == 0) {
                lookAtAll();
            }
        }
        lookAtAll();
    }

    private void text() {
        StringBuilder text = new StringBuilder(random.nextInt(3) == 0 ? "" : street());
        int changes = random.nextInt(4);
        for (int i = 0; i < changes; i++) {
            int at = random.nextInt(text.length() + 1);
            int end = Math.min(text.length(), at + random.nextInt(4));
            text.replace(at, end, random.nextInt(3) == 0 ? "" : " " + WORDS[random.nextInt(WORDS.length)] + " ");
        }
        if (random.nextInt(5) == 0) {
            text.setLength(random.nextInt(text.length() + 1));
        }
        tell(text.toString());
        lookAtAll();
    }

    private void tell(String text) {
        byte[] bytes = text.getBytes(StandardCharsets.ISO_8859_1);
        int length = Math.min(600, bytes.length);
        log.add(text);
        for (int i = 0; i < bytes.length; i += 20) {
            int[] five = new int[5];
            for (int j = 0; j < 20; j++) {
                five[j / 4] = five[j / 4] << 8 | (i + j < bytes.length ? bytes[i + j] & 255 : ' ');
            }
            both("feed", five);
        }
        both("street", length);
        both("fault");
    }

    private void lookAtAll() {
        for (int what = 0; what <= 17; what++) {
            both("count", what);
        }
        for (int what = 0; what < 5; what++) {
            both("house", random.nextInt(8), what);
        }
        for (int what = 0; what < 7; what++) {
            both("lamp", random.nextInt(12), what);
        }
    }

    private int[] arguments(String call) {
        switch (call) {
            case "count": return new int[] {some(17)};
            case "house": return new int[] {some(8), some(5)};
            case "lamp": return new int[] {some(12), some(7)};
            case "hours": return new int[] {some(random.nextInt(3) == 0 ? 49 : 5)};
            case "flick":
            case "breaks":
            case "soonest":
            case "lasts":
            case "fund":
            case "whose":
            case "better": return new int[] {some(12)};
            case "trim": return new int[] {some(12), some(random.nextBoolean() ? 100 : 5)};
            case "give": return new int[] {some(12), some(8)};
            case "sleep": return new int[] {some(8), some(24), some(24)};
            case "then":
            case "quarrels": return new int[] {some(97)};
            case "burnt":
            case "shining": return new int[] {some(12), some(97)};
            case "grief": return new int[] {some(8), some(97)};
            case "busiest": return new int[] {some(2)};
            case "joined": return new int[] {some(8), some(8)};
            case "strife": return new int[] {some(12), some(12)};
            case "treaty": return new int[] {some(8)};
            case "signals": return new int[] {random.nextInt(4) == 0 ? random.nextInt() : random.nextInt(4096)};
            case "see": return seeing();
            case "look": return new int[] {some(12), some(2)};
            case "game": return twins();
            case "winter": return new int[] {random.nextInt(), some(97), some(3)};
            case "street": return new int[] {some(3)};
            default: return new int[0];
        }
    }

    /** Mostly what will be so indeed, so that not all changes of twins are ruled out at once. */
    private int[] seeing() {
        int lamp = some(12);
        int hours = some(49);
        int lit = random.nextInt(2);
        if (random.nextInt(4) != 0 && lamp >= 0 && lamp < 12 && hours >= 1 && hours <= 48) {
            lit = Integer.parseInt(model.answer("then", hours)) >> lamp & 1;
        }
        return new int[] {lamp, hours, lit};
    }

    private int[] twins() {
        int lamp = some(12);
        int other = some(12);
        String twin = model.answer("lamp", lamp, 2);
        if (random.nextInt(6) != 0 && !twin.startsWith("throws")) {
            other = Integer.parseInt(twin);
        }
        return new int[] {lamp, other, some(2)};
    }

    /** 0 to n - 1, seldom a little or far beside it. */
    private int some(int n) {
        switch (random.nextInt(40)) {
            case 0: return -1;
            case 1: return n;
            case 2: return random.nextInt();
            default: return random.nextInt(n);
        }
    }

    private void both(String call, int... a) {
        calls++;
        String want = model.answer(call, a);
        String got;
        try {
            got = "" + real(call, a);
        } catch (NoSuchElementException | IllegalArgumentException e) {
            got = "throws." + e.getClass().getSimpleName();
        }
        StringBuilder line = new StringBuilder(call);
        for (int one : a) {
            line.append(' ').append(one);
        }
        log.add(line + " -> " + got);
        if (!got.equals(want)) {
            log.forEach(System.out::println);
            System.out.println("answered " + got + ", the model " + want);
            System.exit(1);
        }
    }

    private int real(String call, int[] a) {
        switch (call) {
            case "feed": return x.feed(a[0], a[1], a[2], a[3], a[4]);
            case "street": return x.street(a[0]);
            case "fault": return x.fault();
            case "count": return x.count(a[0]);
            case "house": return x.house(a[0], a[1]);
            case "lamp": return x.lamp(a[0], a[1]);
            case "hours": return x.hours(a[0]);
            case "flick": return x.flick(a[0]);
            case "trim": return x.trim(a[0], a[1]);
            case "breaks": return x.breaks(a[0]) ? 1 : 0;
            case "give": return x.give(a[0], a[1]);
            case "sleep": return x.sleep(a[0], a[1], a[2]);
            case "undo": return x.undo();
            case "then": return x.then(a[0]);
            case "burnt": return x.burnt(a[0], a[1]);
            case "shining": return x.shining(a[0], a[1]);
            case "soonest": return x.soonest(a[0]);
            case "busiest": return x.busiest(a[0]);
            case "lasts": return x.lasts(a[0]);
            case "grief": return x.grief(a[0], a[1]);
            case "quarrels": return x.quarrels(a[0]);
            default: return realToo(call, a);
        }
    }

    private int realToo(String call, int[] a) {
        switch (call) {
            case "joined": return x.joined(a[0], a[1]);
            case "strife": return x.strife(a[0], a[1]);
            case "better": return x.better(a[0]);
            case "treaty": return x.treaty(a[0]);
            case "fund": return x.fund(a[0]);
            case "signals": return x.signals(a[0]);
            case "see": return x.see(a[0], a[1], a[2] == 1);
            case "whose": return x.whose(a[0]);
            case "look": return x.look(a[0], a[1]);
            case "forget": x.forget(); return 0;
            case "game": return x.game(a[0], a[1], a[2]);
            case "winter": return x.winter(a[0], a[1], a[2]);
            case "image": x.image(); return 0;
            case "restore": return x.restore() ? 1 : 0;
            default: throw new IllegalStateException(call);
        }
    }

    // ---- streets

    private String street() {
        StringBuilder text = new StringBuilder();
        int houses = random.nextInt(8) + (random.nextInt(8) == 0 ? 0 : 1);
        int lamps = houses == 0 ? 0 : random.nextInt(13);
        boolean ahead = random.nextBoolean();
        if (ahead) {
            text.append(wants());
        }
        for (int i = 0; i < houses; i++) {
            int wakes = random.nextInt(24);
            int sleeps = random.nextInt(3) == 0 ? wakes : random.nextInt(24);
            text.append(WORDS[random.nextInt(4)]).append(' ').append(wakes).append(' ').append(sleeps).append(';');
        }
        List<Integer> alone = new ArrayList<>();
        for (int i = 0; i < lamps; i++) {
            int oil = random.nextInt(random.nextBoolean() ? 100 : 12);
            text.append("lamp ").append(random.nextInt(houses)).append(' ').append(oil).append(";");
            alone.add(random.nextInt(alone.size() + 1), i);
        }
        while (alone.size() > 1 && random.nextInt(8) != 0) {
            text.append("twins ").append(alone.remove(0)).append(' ').append(alone.remove(0)).append(";\n");
        }
        if (!ahead) {
            text.append(wants());
        }
        return text.toString();
    }

    private String wants() {
        switch (random.nextInt(4)) {
            case 0: return "";
            case 1: return "wants (hour + house*" + random.nextInt(9) + ")/" + (1 + random.nextInt(9)) + "*2 < hour + oil;";
            default: return "wants " + expression(random.nextInt(5)) + ";";
        }
    }

    private String expression(int depth) {
        String[] values = {"hour", "kind", "oil", "house", "lamps", "awake"};
        if (depth == 0) {
            return random.nextBoolean() ? values[random.nextInt(6)] : "" + random.nextInt(random.nextInt(6) == 0 ? 10000 : 25);
        }
        String[] signs = {"+", "-", "*", "/", "<", "=", " and ", " or "};
        String left = expression(random.nextInt(depth));
        String right = expression(depth - 1);
        String both = left + signs[random.nextInt(signs.length)] + right;
        switch (random.nextInt(5)) {
            case 0: return "not " + both;
            case 1:
            case 2: return "(" + both + ")";
            default: return both;
        }
    }
}
