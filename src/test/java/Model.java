import java.util.ArrayDeque;
import java.util.ArrayList;
import java.util.Deque;
import java.util.HashMap;
import java.util.HashSet;
import java.util.List;
import java.util.Map;
import java.util.NoSuchElementException;
import java.util.Set;
import java.util.TreeMap;
import java.util.function.Predicate;
import java.util.regex.Matcher;
import java.util.regex.Pattern;

/** The document once more, in the plainest Java, slow and with objects for all: what TwinLamps is held against. */
final class Model {
    static final int NONE = -1;

    static final class Fault extends RuntimeException {
        private static final long serialVersionUID = 1;
        final int code;
        final int place;

        Fault(int code, int place) {
            this.code = code;
            this.place = place;
        }
    }

    static final class House {
        int kind;
        int wakes;
        int sleeps;

        boolean awake(int hour) {
            if (wakes == sleeps) {
                return true;
            }
            for (int h = wakes; h != sleeps; h = (h + 1) % 24) {
                if (h == hour % 24) {
                    return true;
                }
            }
            return false;
        }
    }

    static final class Lamp {
        int house;
        int oil;
        int twin = NONE;
        boolean lit;
        boolean broken;
    }

    /** A value or an expression of a rule. */
    interface Node {
        int of(State state, int lamp, int hour);
    }

    static final class State {
        final List<House> houses = new ArrayList<>();
        final List<Lamp> lamps = new ArrayList<>();
        int hour;
        Node rule;

        State copy() {
            State other = new State();
            for (House h : houses) {
                House copy = new House();
                copy.kind = h.kind;
                copy.wakes = h.wakes;
                copy.sleeps = h.sleeps;
                other.houses.add(copy);
            }
            for (Lamp l : lamps) {
                Lamp copy = new Lamp();
                copy.house = l.house;
                copy.oil = l.oil;
                copy.twin = l.twin;
                copy.lit = l.lit;
                copy.broken = l.broken;
                other.lamps.add(copy);
            }
            other.hour = hour;
            other.rule = rule;
            return other;
        }

        House houseOf(int lamp) {
            return houses.get(lamps.get(lamp).house);
        }

        List<Lamp> both(int lamp) {
            List<Lamp> both = new ArrayList<>();
            both.add(lamps.get(lamp));
            if (lamps.get(lamp).twin != NONE) {
                both.add(lamps.get(lamps.get(lamp).twin));
            }
            return both;
        }

        boolean can(int lamp) {
            for (Lamp l : both(lamp)) {
                if (l.oil == 0 || l.broken) {
                    return false;
                }
            }
            return true;
        }

        boolean sound(int lamp) {
            for (Lamp l : both(lamp)) {
                if (l.broken) {
                    return false;
                }
            }
            return true;
        }

        void become(int lamp, boolean lit) {
            for (Lamp l : both(lamp)) {
                l.lit = lit;
            }
        }

        boolean wants(int lamp, int anHour) {
            int h = anHour % 24;
            if (rule != null) {
                return rule.of(this, lamp, h) > 0;
            }
            House house = houseOf(lamp);
            switch (house.kind) {
                case 0: return house.awake(h) && (h >= 18 || h < 6);
                case 1: return h >= 18 || h < 6;
                case 2: return false;
                default: return house.awake(h) && (h >= 18 || h < 9);
            }
        }

        int bits(Predicate<Integer> which) {
            int bits = 0;
            for (int i = 0; i < lamps.size(); i++) {
                bits += which.test(i) ? 1 << i : 0;
            }
            return bits;
        }

        int lit() {
            return bits(i -> lamps.get(i).lit);
        }
    }

    /** What happened in one hour. */
    static final class Happened {
        int litIn;
        int quarrels;
        final int[] complaints = new int[8];

        int allComplaints() {
            int sum = 0;
            for (int c : complaints) {
                sum += c;
            }
            return sum;
        }
    }

    static Happened pass(State s) {
        Happened happened = new Happened();
        Map<Integer, Integer> flicks = new HashMap<>();
        for (int i = 0; i < s.lamps.size(); i++) {
            Lamp l = s.lamps.get(i);
            boolean wanted = s.wants(i, s.hour);
            if (s.houseOf(i).awake(s.hour) && l.lit != wanted && (!wanted || s.can(i))) {
                s.become(i, wanted);
                int couple = l.twin == NONE ? i : Math.min(i, l.twin);
                flicks.merge(couple, 1, Integer::sum);
            }
        }
        for (int many : flicks.values()) {
            happened.quarrels += many - 1;
        }
        happened.litIn = s.lit();
        List<Integer> burning = new ArrayList<>();
        for (int i = 0; i < s.lamps.size(); i++) {
            Lamp l = s.lamps.get(i);
            if (s.houseOf(i).awake(s.hour) && s.wants(i, s.hour) != l.lit) {
                happened.complaints[l.house]++;
            }
            if (l.lit) {
                burning.add(i);
            }
        }
        for (int i : burning) {
            s.lamps.get(i).oil--;
        }
        for (int i : burning) {
            if (s.lamps.get(i).oil == 0) {
                s.become(i, false);
            }
        }
        s.hour++;
        return happened;
    }

    static List<Happened> ahead(State s, int hours) {
        State copy = s.copy();
        List<Happened> all = new ArrayList<>();
        for (int i = 0; i < hours; i++) {
            all.add(pass(copy));
        }
        return all;
    }

    // ---- the text

    private static final class Token {
        String text;
        int place;

        boolean number() {
            return Character.isDigit(text.charAt(0));
        }

        boolean word() {
            return Character.isLowerCase(text.charAt(0));
        }
    }

    private static final Pattern TOKEN = Pattern.compile("[a-z]+|[0-9]+|[;()+*/<=-]|[^ \\n]", Pattern.DOTALL);

    static final class Parser {
        private final Deque<Token> tokens = new ArrayDeque<>();
        private final int length;
        final State state = new State();

        Parser(String text) {
            length = text.length();
            Matcher m = TOKEN.matcher(text);
            while (m.find()) {
                Token t = new Token();
                t.text = m.group().charAt(0) > 127 ? "?" : m.group();
                t.place = m.start();
                tokens.add(t);
            }
        }

        private boolean at(String... some) {
            for (String text : some) {
                if (!tokens.isEmpty() && tokens.peek().text.equals(text)) {
                    return true;
                }
            }
            return false;
        }

        private Fault fault(int code) {
            return new Fault(tokens.isEmpty() ? 1 : code, tokens.isEmpty() ? length : tokens.peek().place);
        }

        private String take() {
            return tokens.poll().text;
        }

        private void need(String text) {
            if (!at(text)) {
                throw fault(1);
            }
            take();
        }

        /** Looks at a number, but doesn't take it. */
        private int number(int most, int code) {
            if (tokens.isEmpty() || !tokens.peek().number()) {
                throw fault(1);
            }
            if (tokens.peek().text.length() > 4) {
                throw fault(2);
            }
            int number = Integer.parseInt(tokens.peek().text);
            if (number > most) {
                throw fault(code);
            }
            return number;
        }

        State street() {
            while (!tokens.isEmpty()) {
                if (at("home", "tower", "alley", "ballroom")) {
                    houseLine();
                } else if (at("lamp")) {
                    lampLine();
                } else if (at("twins")) {
                    twinsLine();
                } else if (at("wants")) {
                    if (state.rule != null) {
                        throw fault(5);
                    }
                    take();
                    state.rule = expr(0);
                } else {
                    throw fault(1);
                }
                need(";");
            }
            return state;
        }

        private void houseLine() {
            if (state.houses.size() == 8) {
                throw fault(2);
            }
            House h = new House();
            h.kind = List.of("home", "tower", "alley", "ballroom").indexOf(take());
            h.wakes = number(23, 2);
            take();
            h.sleeps = number(23, 2);
            take();
            state.houses.add(h);
        }

        private void lampLine() {
            if (state.lamps.size() == 12) {
                throw fault(2);
            }
            take();
            Lamp l = new Lamp();
            l.house = number(state.houses.size() - 1, 3);
            take();
            l.oil = number(99, 2);
            take();
            state.lamps.add(l);
        }

        private void twinsLine() {
            take();
            int first = number(state.lamps.size() - 1, 3);
            if (state.lamps.get(first).twin != NONE) {
                throw fault(4);
            }
            take();
            int second = number(state.lamps.size() - 1, 3);
            if (state.lamps.get(second).twin != NONE || first == second) {
                throw fault(4);
            }
            take();
            state.lamps.get(first).twin = second;
            state.lamps.get(second).twin = first;
        }

        private Node expr(int depth) {
            if (depth == 6 && !tokens.isEmpty()) {
                Token t = tokens.peek();
                throw fault(t.number() || t.word() || t.text.equals("(") ? 2 : 1);
            }
            Node all = and(depth);
            while (at("or")) {
                take();
                Node left = all;
                Node right = and(depth);
                all = (s, l, h) -> (left.of(s, l, h) != 0) | (right.of(s, l, h) != 0) ? 1 : 0;
            }
            return all;
        }

        private Node and(int depth) {
            Node all = not(depth, 0);
            while (at("and")) {
                take();
                Node left = all;
                Node right = not(depth, 0);
                all = (s, l, h) -> (left.of(s, l, h) != 0) & (right.of(s, l, h) != 0) ? 1 : 0;
            }
            return all;
        }

        private Node not(int depth, int ahead) {
            if (at("not")) {
                if (ahead == 6) {
                    throw fault(2);
                }
                take();
                Node of = not(depth, ahead + 1);
                return (s, l, h) -> of.of(s, l, h) == 0 ? 1 : 0;
            }
            Node left = sum(depth);
            if (!at("<", "=")) {
                return left;
            }
            boolean less = take().equals("<");
            Node right = sum(depth);
            return (s, l, h) -> {
                int a = left.of(s, l, h);
                int b = right.of(s, l, h);
                return (less ? a < b : a == b) ? 1 : 0;
            };
        }

        private Node sum(int depth) {
            Node all = product(depth);
            while (at("+", "-")) {
                int sign = take().equals("+") ? 1 : -1;
                Node left = all;
                Node right = product(depth);
                all = (s, l, h) -> left.of(s, l, h) + sign * right.of(s, l, h);
            }
            return all;
        }

        private Node product(int depth) {
            Node all = part(depth);
            while (at("*", "/")) {
                boolean times = take().equals("*");
                Node left = all;
                Node right = part(depth);
                all = (s, l, h) -> {
                    long a = left.of(s, l, h);
                    long b = right.of(s, l, h);
                    return (int) (times ? a * b : b == 0 ? 0 : a / b);
                };
            }
            return all;
        }

        private Node part(int depth) {
            if (tokens.isEmpty()) {
                throw fault(1);
            }
            if (tokens.peek().number()) {
                int number = number(9999, 2);
                take();
                return (s, l, h) -> number;
            }
            if (at("(")) {
                take();
                Node within = expr(depth + 1);
                need(")");
                return within;
            }
            if (!tokens.peek().word()) {
                throw fault(1);
            }
            Node value = value(tokens.peek().text);
            if (value == null) {
                throw fault(3);
            }
            take();
            return value;
        }

        private static Node value(String word) {
            switch (word) {
                case "hour": return (s, l, h) -> h;
                case "kind": return (s, l, h) -> s.houseOf(l).kind;
                case "oil": return (s, l, h) -> s.lamps.get(l).oil;
                case "house": return (s, l, h) -> s.lamps.get(l).house;
                case "lamps": return (s, l, h) -> Integer.bitCount(s.bits(i -> s.lamps.get(i).house == s.lamps.get(l).house));
                case "awake": return (s, l, h) -> s.houseOf(l).awake(h) ? 1 : 0;
                default: return null;
            }
        }
    }

    // ---- the object

    /** Something seen: lamp, hours, lit (1). */
    private final List<int[]> seen = new ArrayList<>();
    private final Deque<State> acts = new ArrayDeque<>();
    private final StringBuilder tape = new StringBuilder();
    private final int[] status = new int[3];
    private State now = new State();
    private int place = NONE;
    private Model image;

    /** The answer of a call: a number, or throws.X. */
    String answer(String call, int... a) {
        try {
            return "" + call(call, a);
        } catch (NoSuchElementException | IllegalArgumentException e) {
            return "throws." + e.getClass().getSimpleName();
        }
    }

    private int call(String call, int[] a) {
        switch (call) {
            case "feed": return feed(a);
            case "street": return street(a[0]);
            case "fault": return place;
            case "count": return count(a[0]);
            case "house": return house(a[0], a[1]);
            case "lamp": return lamp(a[0], a[1]);
            case "hours": return hours(a[0]);
            case "flick": return flick(a[0]);
            case "trim": return trim(a[0], a[1]);
            case "breaks": return breaks(a[0]);
            case "give": return give(a[0], a[1]);
            case "sleep": return sleep(a[0], a[1], a[2]);
            case "undo": return undo();
            case "see": return see(a[0], a[1], a[2]);
            case "whose": return whose(a[0]);
            case "look": return look(a[0], a[1]);
            case "forget": seen.clear(); return 0;
            case "game": return game(a[0], a[1], a[2]);
            case "winter": return winter(a[0], a[1], a[2]);
            case "image": image = new Model(); image.takeFrom(this); return 0;
            case "restore": if (image != null) { takeFrom(image); } return image != null ? 1 : 0;
            default: return ask(call, a);
        }
    }

    private int ask(String call, int[] a) {
        switch (call) {
            case "then": need(a[0] >= 1 && a[0] <= 96); return ahead(now, a[0]).get(a[0] - 1).litIn;
            case "burnt":
            case "shining": return shining(a[0], a[1]);
            case "soonest": return soonest(a[0]);
            case "busiest": return busiest(a[0]);
            case "lasts": return lasts(a[0]);
            case "grief": return grief(a[0], a[1]);
            case "quarrels": need(a[0] >= 0 && a[0] <= 96); return ahead(now, a[0]).stream().mapToInt(h -> h.quarrels).sum();
            case "joined": return joined(a[0], a[1]);
            case "strife": needLamp(a[0]); needLamp(a[1]); return strife(a[0], a[1]);
            case "better": return better(a[0]);
            case "treaty": return treaty(a[0]);
            case "fund": return fund(a[0]);
            case "signals": return signals(a[0]);
            default: throw new IllegalStateException(call);
        }
    }

    private static void need(boolean holds) {
        if (!holds) {
            throw new IllegalArgumentException();
        }
    }

    private static void needThing(boolean holds) {
        if (!holds) {
            throw new NoSuchElementException();
        }
    }

    private void needLamp(int lamp) {
        needThing(lamp >= 0 && lamp < now.lamps.size());
    }

    private void needHouse(int house) {
        needThing(house >= 0 && house < now.houses.size());
    }

    private int refuse(int which) {
        status[which]++;
        return NONE;
    }

    private void takeFrom(Model other) {
        now = other.now.copy();
        acts.clear();
        other.acts.forEach(s -> acts.add(s.copy()));
        seen.clear();
        seen.addAll(other.seen);
        System.arraycopy(other.status, 0, status, 0, 3);
    }

    private int feed(int[] a) {
        if (tape.length() + 20 > 600) {
            return NONE;
        }
        for (int number : a) {
            for (int i = 3; i >= 0; i--) {
                tape.append((char) (number >>> 8 * i & 255));
            }
        }
        return tape.length();
    }

    private int street(int n) {
        need(n >= 0 && n <= tape.length());
        String text = tape.substring(0, n);
        tape.setLength(0);
        try {
            now = new Parser(text).street();
        } catch (Fault f) {
            place = f.place;
            status[0]++;
            return f.code;
        }
        place = NONE;
        acts.clear();
        seen.clear();
        image = null;
        return 0;
    }

    private int count(int what) {
        List<Lamp> ls = now.lamps;
        switch (what) {
            case 0: return now.houses.size();
            case 1: return ls.size();
            case 2: return (int) ls.stream().filter(l -> l.twin != NONE).count() / 2;
            case 3: return now.hour;
            case 4: return now.lit();
            case 5: return now.bits(i -> ls.get(i).broken);
            case 6: return ls.stream().mapToInt(l -> l.oil).sum();
            case 7: return now.bits(i -> ls.get(i).twin == NONE);
            case 8: return now.bits(i -> ls.get(i).twin != NONE && ls.get(ls.get(i).twin).house == ls.get(i).house);
            case 9: return groups();
            case 10:
                int bits = 0;
                for (int h = 0; h < now.houses.size(); h++) {
                    bits |= now.houses.get(h).awake(now.hour) ? 1 << h : 0;
                }
                return bits;
            case 11: return acts.size();
            case 12: return seen.size();
            case 13: return tape.length();
            default:
                needThing(what >= 14 && what <= 16);
                return status[what - 14];
        }
    }

    private int[][] distances() {
        int n = now.houses.size();
        int[][] d = new int[n][n];
        for (int i = 0; i < n; i++) {
            for (int j = 0; j < n; j++) {
                d[i][j] = i == j ? 0 : 1000;
            }
        }
        for (Lamp l : now.lamps) {
            if (l.twin != NONE && now.lamps.get(l.twin).house != l.house) {
                d[l.house][now.lamps.get(l.twin).house] = 1;
            }
        }
        for (int k = 0; k < n; k++) {
            for (int i = 0; i < n; i++) {
                for (int j = 0; j < n; j++) {
                    d[i][j] = Math.min(d[i][j], d[i][k] + d[k][j]);
                }
            }
        }
        return d;
    }

    private int groups() {
        int many = 0;
        int[][] d = distances();
        for (int i = 0; i < d.length; i++) {
            int least = i;
            for (int j = 0; j < i; j++) {
                least = d[i][j] < 1000 ? Math.min(least, j) : least;
            }
            many += least == i ? 1 : 0;
        }
        return many;
    }

    private int joined(int house, int other) {
        needHouse(house);
        needHouse(other);
        int d = distances()[house][other];
        return d >= 1000 ? NONE : d;
    }

    private int house(int house, int what) {
        needHouse(house);
        House h = now.houses.get(house);
        switch (what) {
            case 0: return h.kind;
            case 1: return h.wakes;
            case 2: return h.sleeps;
            case 3: return now.bits(i -> now.lamps.get(i).house == house);
            default:
                needThing(what == 4);
                int bits = 0;
                for (Lamp l : now.lamps) {
                    if (l.house == house && l.twin != NONE) {
                        bits |= 1 << now.lamps.get(l.twin).house;
                    }
                }
                return bits;
        }
    }

    private int lamp(int lamp, int what) {
        needLamp(lamp);
        Lamp l = now.lamps.get(lamp);
        switch (what) {
            case 0: return l.house;
            case 1: return l.oil;
            case 2: return l.twin;
            case 3: return l.lit ? 1 : 0;
            case 4: return l.broken ? 1 : 0;
            case 5: return now.wants(lamp, now.hour) ? 1 : 0;
            default:
                needThing(what == 6);
                int bits = 0;
                for (int h = 0; h < 24; h++) {
                    bits |= now.wants(lamp, h) ? 1 << h : 0;
                }
                return bits;
        }
    }

    private void keep() {
        acts.addLast(now.copy());
        if (acts.size() > 40) {
            acts.removeFirst();
        }
    }

    private int hours(int many) {
        if (many < 1 || many > 48 || now.hour + many > 9999) {
            return refuse(1);
        }
        keep();
        for (int i = 0; i < many; i++) {
            pass(now);
        }
        return now.hour;
    }

    private int flick(int lamp) {
        needLamp(lamp);
        boolean lit = now.lamps.get(lamp).lit;
        if (!lit && !now.can(lamp)) {
            return refuse(1);
        }
        keep();
        now.become(lamp, !lit);
        return lit ? 0 : 1;
    }

    private int trim(int lamp, int oil) {
        needLamp(lamp);
        if (oil < 0 || oil > 99) {
            return refuse(1);
        }
        keep();
        int before = now.lamps.get(lamp).oil;
        now.lamps.get(lamp).oil = oil;
        if (oil == 0) {
            now.become(lamp, false);
        }
        return before;
    }

    private int breaks(int lamp) {
        needLamp(lamp);
        if (now.lamps.get(lamp).broken) {
            refuse(1);
            return 0;
        }
        keep();
        now.lamps.get(lamp).broken = true;
        now.become(lamp, false);
        return 1;
    }

    private int give(int lamp, int house) {
        needLamp(lamp);
        needHouse(house);
        int before = now.lamps.get(lamp).house;
        if (before == house) {
            return refuse(1);
        }
        keep();
        now.lamps.get(lamp).house = house;
        return before;
    }

    private int sleep(int house, int wakes, int sleeps) {
        needHouse(house);
        if (wakes < 0 || wakes > 23 || sleeps < 0 || sleeps > 23) {
            return refuse(1);
        }
        keep();
        House h = now.houses.get(house);
        int before = 24 * h.wakes + h.sleeps;
        h.wakes = wakes;
        h.sleeps = sleeps;
        return before;
    }

    private int undo() {
        if (acts.isEmpty()) {
            return NONE;
        }
        now = acts.removeLast();
        return acts.size();
    }

    private int shining(int lamp, int hours) {
        needLamp(lamp);
        need(hours >= 0 && hours <= 96);
        return (int) ahead(now, hours).stream().filter(h -> (h.litIn >> lamp & 1) == 1).count();
    }

    private int soonest(int lamp) {
        needLamp(lamp);
        List<Happened> all = ahead(now, 96);
        for (int i = 0; i < 96; i++) {
            if ((all.get(i).litIn >> lamp & 1) == 1) {
                return i + 1;
            }
        }
        return NONE;
    }

    private int busiest(int what) {
        needThing(what == 0 || what == 1);
        TreeMap<Integer, Integer> hours = new TreeMap<>();
        for (int h = 23; h >= 0; h--) {
            int hour = h;
            hours.put(Integer.bitCount(now.bits(i -> now.houseOf(i).awake(hour) && now.wants(i, hour))), h);
        }
        int most = hours.lastKey();
        return what == 1 ? most : most == 0 ? NONE : hours.get(most);
    }

    private int lasts(int lamp) {
        needLamp(lamp);
        State copy = now.copy();
        for (int h = 0; h <= 96; h++) {
            if (copy.lamps.get(lamp).oil == 0) {
                return h;
            }
            pass(copy);
        }
        return NONE;
    }

    private int grief(int house, int hours) {
        needHouse(house);
        need(hours >= 0 && hours <= 96);
        return ahead(now, hours).stream().mapToInt(h -> h.complaints[house]).sum();
    }

    private int strife(int a, int b) {
        int many = 0;
        for (int h = 0; h < 24; h++) {
            boolean awakeA = now.houseOf(a).awake(h);
            boolean awakeB = now.houseOf(b).awake(h);
            boolean wantsA = now.wants(a, h);
            boolean wantsB = now.wants(b, h);
            if (awakeA && awakeB) {
                many += wantsA != wantsB ? 1 : 0;
            } else {
                many += awakeA && wantsA || awakeB && wantsB ? 1 : 0;
            }
        }
        return many;
    }

    private int better(int lamp) {
        if (lamp != NONE) {
            needLamp(lamp);
        }
        List<Integer> left = new ArrayList<>();
        for (int i = 0; i < now.lamps.size(); i++) {
            if (now.lamps.get(i).twin != NONE && now.sound(i)) {
                left.add(i);
            }
        }
        Map<Integer, Integer> row = new HashMap<>();
        int[][] strife = new int[12][12];
        for (int i : left) {
            for (int j : left) {
                strife[i][j] = strife(i, j);
            }
        }
        int least = cast(left, strife, row);
        return lamp == NONE ? least : row.getOrDefault(lamp, NONE);
    }

    /** Tries all rows in their order; the first of the least ones stays. */
    private static int cast(List<Integer> left, int[][] strife, Map<Integer, Integer> best) {
        if (left.isEmpty()) {
            return 0;
        }
        int first = left.get(0);
        int least = Integer.MAX_VALUE;
        for (int i = 1; i < left.size(); i++) {
            List<Integer> others = new ArrayList<>(left);
            int second = others.remove(i);
            others.remove(0);
            Map<Integer, Integer> row = new HashMap<>();
            row.put(first, second);
            row.put(second, first);
            int cost = strife[first][second] + cast(others, strife, row);
            if (cost < least) {
                least = cost;
                best.keySet().removeAll(left);
                best.putAll(row);
            }
        }
        return least;
    }

    private int treaty(int house) {
        needHouse(house);
        State copy = now.copy();
        int best = NONE;
        int least = ahead(copy, 24).stream().mapToInt(Happened::allComplaints).sum();
        for (int s = 0; s < 24; s++) {
            copy.houses.get(house).sleeps = s;
            int sum = ahead(copy, 24).stream().mapToInt(Happened::allComplaints).sum();
            if (sum < least) {
                least = sum;
                best = s;
            }
        }
        return best;
    }

    private int fund(int lamp) {
        needLamp(lamp);
        State broken = now.copy();
        broken.lamps.get(lamp).broken = true;
        Set<Integer> with = new HashSet<>();
        for (int i = 0; i < now.lamps.size(); i++) {
            if (now.sound(i)) {
                with.add(now.lamps.get(i).house);
            }
        }
        for (int i = 0; i < now.lamps.size(); i++) {
            if (broken.sound(i)) {
                with.remove(now.lamps.get(i).house);
            }
        }
        return with.stream().mapToInt(h -> 1 << h).sum();
    }

    private int signals(int lamps) {
        need(lamps >= 0 && lamps < 1 << now.lamps.size());
        int n = 0;
        while (Math.pow(2, n) < Integer.bitCount(lamps)) {
            n++;
        }
        return n;
    }

    private int see(int lamp, int hours, int lit) {
        needLamp(lamp);
        if (hours < 1 || hours > 48 || seen.size() == 8) {
            return refuse(2);
        }
        seen.add(new int[] {lamp, hours, lit});
        return seen.size();
    }

    private boolean fits(State s) {
        List<Happened> all = ahead(s, 48);
        for (int[] one : seen) {
            if ((all.get(one[1] - 1).litIn >> one[0] & 1) != one[2]) {
                return false;
            }
        }
        return true;
    }

    private State changed(int a, int b) {
        State s = now.copy();
        int twinA = s.lamps.get(a).twin;
        int twinB = s.lamps.get(b).twin;
        if (a == b || twinA == b || twinA == NONE || twinB == NONE) {
            return null;
        }
        s.lamps.get(a).twin = twinB;
        s.lamps.get(twinB).twin = a;
        s.lamps.get(b).twin = twinA;
        s.lamps.get(twinA).twin = b;
        return s;
    }

    private int whose(int lamp) {
        needLamp(lamp);
        return (fits(now) ? 4096 : 0) + now.bits(i -> changed(lamp, i) != null && fits(changed(lamp, i)));
    }

    private int look(int lamp, int what) {
        needLamp(lamp);
        needThing(what == 0 || what == 1);
        int best = NONE;
        int most = 0;
        int others = whose(lamp);
        List<List<Happened>> all = new ArrayList<>();
        for (int i = 0; i < now.lamps.size(); i++) {
            if ((others >> i & 1) == 1) {
                all.add(ahead(changed(lamp, i), 48));
            }
        }
        for (int h = 1; h <= 48; h++) {
            Set<Integer> sets = new HashSet<>();
            for (List<Happened> one : all) {
                sets.add(one.get(h - 1).litIn);
            }
            if (sets.size() > most) {
                most = sets.size();
                best = h;
            }
        }
        return what == 0 ? best : most;
    }

    private int game(int lamp, int other, int what) {
        needLamp(lamp);
        needLamp(other);
        needThing(what == 0 || what == 1);
        need(now.lamps.get(lamp).twin == other && now.can(lamp));
        int many = 0;
        int first = NONE;
        for (int couple : new int[] {0, 1, 10, 11}) {
            int a = couple / 10;
            int b = couple % 10;
            int[] here = gains(lamp, other, a, b);
            if (gains(lamp, other, 1 - a, b)[0] <= here[0] && gains(lamp, other, a, 1 - b)[1] <= here[1]) {
                first = many == 0 ? couple : first;
                many++;
            }
        }
        return what == 0 ? many : first;
    }

    private int[] gains(int lamp, int other, int choice, int otherChoice) {
        State s = now.copy();
        int[] gains = new int[2];
        for (int l = 0; l < s.lamps.size(); l++) {
            if (l == lamp || l == other) {
                boolean chosen = (l == lamp ? choice : otherChoice) == 1;
                if (s.lamps.get(l).lit != chosen) {
                    gains[l == lamp ? 0 : 1]--;
                    s.become(l, chosen);
                }
            }
        }
        gains[0] += s.lamps.get(lamp).lit == s.wants(lamp, s.hour) ? 3 : 0;
        gains[1] += s.lamps.get(lamp).lit == s.wants(other, s.hour) ? 3 : 0;
        return gains;
    }

    private int seed;

    private int draw(int n) {
        seed = (int) (seed * 1103515245L + 12345L);
        return (int) ((seed & 0xFFFFFFFFL) / 65536 % 32768) % n;
    }

    private int winter(int itsSeed, int n, int what) {
        needThing(what >= 0 && what <= 2);
        need(n >= 0 && n <= 96);
        State s = now.copy();
        seed = itsSeed;
        int complaints = 0;
        for (int i = 0; i < n; i++) {
            if (!s.lamps.isEmpty()) {
                int lamp = draw(s.lamps.size());
                int event = draw(5);
                Lamp l = s.lamps.get(lamp);
                if (event == 0 && (l.lit || s.can(lamp))) {
                    s.become(lamp, !l.lit);
                } else if (event == 1 && draw(10) == 0) {
                    l.broken = true;
                    s.become(lamp, false);
                } else if (event == 2) {
                    l.oil = Math.min(99, l.oil + 9);
                }
            }
            complaints += pass(s).allComplaints();
        }
        return what == 0 ? complaints : what == 1 ? Integer.bitCount(s.lit())
            : (int) s.lamps.stream().filter(l -> l.broken).count();
    }
}
