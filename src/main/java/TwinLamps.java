import java.util.NoSuchElementException;

/** Lamps in houses, cast two by two, of which both burn or neither. */
public final class TwinLamps {
    public static final int NONE = -1;

    private static final int MOST_HOUSES = 8;
    private static final int MOST_LAMPS = 12;
    private static final int MOST_OIL = 99;
    private static final int MOST_BYTES = 600;
    private static final int MOST_ACTS = 40;
    private static final int MOST_SEEN = 8;
    private static final int MOST_PASSING = 48;
    private static final int MOST_AHEAD = 96;
    private static final int LAST_HOUR = 9999;
    private static final int DAY = 24;
    private static final int FED_BYTES = 20;

    private static final int TOWER = 1;
    private static final int ALLEY = 2;
    private static final int BALLROOM = 3;

    /** What was refused, by its place in the status. */
    private static final int TEXTS = 0;
    private static final int ACTS = 1;
    private static final int SIGHTS = 2;

    private final Reader reader = new Reader();
    private final Rule rule = new Rule();
    private final Town now = new Town();
    private final History acts = new History();
    private final Sightings sightings = new Sightings();
    private final int[] status = new int[3];
    private final Picture picture = new Picture();
    private int faultPlace = NONE;

    /** Rows that calls use again and again, so that no call has to make its own. */
    private final Evening evening = new Evening();
    private final Town trial = new Town();
    private final Matching matching = new Matching();
    private final Dice dice = new Dice();
    private final Duel duel = new Duel();
    private final int[][] visions = new int[MOST_LAMPS][MOST_PASSING];

    public TwinLamps() {
    }

    // ---- the tape and the street

    public int feed(int a, int b, int c, int d, int e) {
        if (reader.taped > MOST_BYTES - FED_BYTES) {
            return NONE;
        }
        reader.append(a);
        reader.append(b);
        reader.append(c);
        reader.append(d);
        reader.append(e);
        return reader.taped;
    }

    public int street(int n) throws IllegalArgumentException {
        if (n < 0 || n > reader.taped) {
            throw new IllegalArgumentException("the tape has not so many bytes");
        }
        int found = reader.parse(n);
        faultPlace = reader.place;
        if (found != 0) {
            status[TEXTS]++;
            return found;
        }
        now.copyFrom(reader.town);
        rule.copyFrom(reader.rule);
        acts.clear();
        sightings.clear();
        picture.kept = false;
        return 0;
    }

    public int fault() {
        return faultPlace;
    }

    // ---- what there is

    public int count(int what) throws NoSuchElementException {
        switch (what) {
            case 0: return now.houses;
            case 1: return now.lamps;
            case 2: return (now.lamps - Integer.bitCount(now.singletons())) / 2;
            case 3: return now.hour;
            case 4: return now.lit;
            case 5: return now.broken;
            case 6: return now.oilInAll();
            case 7: return now.singletons();
            case 8: return now.happyLamps();
            case 9: return now.groups();
            case 10: return now.awakeHouses(now.hour % DAY);
            case 11: return acts.size;
            case 12: return sightings.size;
            case 13: return reader.taped;
            case 14: return status[TEXTS];
            case 15: return status[ACTS];
            case 16: return status[SIGHTS];
            default: throw new NoSuchElementException("there is no such count");
        }
    }

    public int house(int house, int what) throws NoSuchElementException {
        needHouse(house);
        switch (what) {
            case 0: return now.kind[house];
            case 1: return now.wakes[house];
            case 2: return now.sleeps[house];
            case 3: return now.lampsOf(house);
            case 4: return now.plungedBy(house);
            default: throw new NoSuchElementException("a house has no such thing");
        }
    }

    public int lamp(int lamp, int what) throws NoSuchElementException {
        needLamp(lamp);
        switch (what) {
            case 0: return now.home[lamp];
            case 1: return now.oil[lamp];
            case 2: return now.twin[lamp];
            case 3: return now.isLit(lamp) ? 1 : 0;
            case 4: return now.isBroken(lamp) ? 1 : 0;
            case 5: return rule.wantsLit(now, lamp, now.hour % DAY) ? 1 : 0;
            case 6: return rule.hoursWanted(now, lamp);
            default: throw new NoSuchElementException("a lamp has no such thing");
        }
    }

    // ---- acts

    public int hours(int many) {
        if (many < 1 || many > MOST_PASSING || now.hour + many > LAST_HOUR) {
            return refuse(ACTS);
        }
        acts.keep(now);
        for (int i = 0; i < many; i++) {
            evening.passHour(rule, now);
        }
        return now.hour;
    }

    public int flick(int lamp) throws NoSuchElementException {
        needLamp(lamp);
        if (!now.isLit(lamp) && !now.canBeLit(lamp)) {
            return refuse(ACTS);
        }
        acts.keep(now);
        now.flickByHand(lamp);
        return now.isLit(lamp) ? 1 : 0;
    }

    public int trim(int lamp, int oil) throws NoSuchElementException {
        needLamp(lamp);
        if (oil < 0 || oil > MOST_OIL) {
            return refuse(ACTS);
        }
        acts.keep(now);
        int before = now.oil[lamp];
        now.oil[lamp] = oil;
        if (oil == 0) {
            now.putOut(lamp);
        }
        return before;
    }

    public boolean breaks(int lamp) throws NoSuchElementException {
        needLamp(lamp);
        if (now.isBroken(lamp)) {
            refuse(ACTS);
            return false;
        }
        acts.keep(now);
        now.shatter(lamp);
        return true;
    }

    public int give(int lamp, int house) throws NoSuchElementException {
        needLamp(lamp);
        needHouse(house);
        int before = now.home[lamp];
        if (before == house) {
            return refuse(ACTS);
        }
        acts.keep(now);
        now.home[lamp] = house;
        return before;
    }

    public int sleep(int house, int wakes, int sleeps) throws NoSuchElementException {
        needHouse(house);
        if (!isHourOfDay(wakes) || !isHourOfDay(sleeps)) {
            return refuse(ACTS);
        }
        acts.keep(now);
        int before = now.wakes[house] * DAY + now.sleeps[house];
        now.wakes[house] = wakes;
        now.sleeps[house] = sleeps;
        return before;
    }

    public int undo() {
        if (acts.size == 0) {
            return NONE;
        }
        acts.takeBack(now);
        return acts.size;
    }

    // ---- if only hours go by

    public int then(int hours) throws IllegalArgumentException {
        if (hours < 1 || hours > MOST_AHEAD) {
            throw new IllegalArgumentException("hours are 1 to 96");
        }
        trial.copyFrom(now);
        for (int i = 0; i < hours; i++) {
            evening.passHour(rule, trial);
        }
        return evening.litIn;
    }

    public int burnt(int lamp, int hours) throws NoSuchElementException, IllegalArgumentException {
        needLamp(lamp);
        needAhead(hours);
        trial.copyFrom(now);
        for (int i = 0; i < hours; i++) {
            evening.passHour(rule, trial);
        }
        return now.oil[lamp] - trial.oil[lamp];
    }

    public int shining(int lamp, int hours) throws NoSuchElementException, IllegalArgumentException {
        needLamp(lamp);
        needAhead(hours);
        trial.copyFrom(now);
        int many = 0;
        for (int i = 0; i < hours; i++) {
            evening.passHour(rule, trial);
            many += evening.litIn >> lamp & 1;
        }
        return many;
    }

    public int soonest(int lamp) throws NoSuchElementException {
        needLamp(lamp);
        trial.copyFrom(now);
        for (int hour = 1; hour <= MOST_AHEAD; hour++) {
            evening.passHour(rule, trial);
            if ((evening.litIn >> lamp & 1) == 1) {
                return hour;
            }
        }
        return NONE;
    }

    public int busiest(int what) throws NoSuchElementException {
        needHourOrMany(what);
        int busiest = NONE;
        int most = 0;
        for (int hour = 0; hour < DAY; hour++) {
            int wanted = wantedByAwake(hour);
            if (wanted > most) {
                most = wanted;
                busiest = hour;
            }
        }
        return what == 0 ? busiest : most;
    }

    public int lasts(int lamp) throws NoSuchElementException {
        needLamp(lamp);
        trial.copyFrom(now);
        for (int hour = 0; hour <= MOST_AHEAD; hour++) {
            if (trial.oil[lamp] == 0) {
                return hour;
            }
            evening.passHour(rule, trial);
        }
        return NONE;
    }

    public int grief(int house, int hours) throws NoSuchElementException, IllegalArgumentException {
        needHouse(house);
        needAhead(hours);
        trial.copyFrom(now);
        int lamps = now.lampsOf(house);
        int many = 0;
        for (int i = 0; i < hours; i++) {
            evening.passHour(rule, trial);
            many += Integer.bitCount(evening.complaints & lamps);
        }
        return many;
    }

    public int quarrels(int hours) throws IllegalArgumentException {
        needAhead(hours);
        trial.copyFrom(now);
        int many = 0;
        for (int i = 0; i < hours; i++) {
            evening.passHour(rule, trial);
            many += evening.quarrelsIn;
        }
        return many;
    }

    // ---- who is bound to whom

    public int joined(int house, int other) throws NoSuchElementException {
        needHouse(house);
        needHouse(other);
        return now.fewestTwins(house, other);
    }

    public int strife(int lamp, int other) throws NoSuchElementException {
        needLamp(lamp);
        needLamp(other);
        matching.setHours(lamp, now.hoursAwake(now.home[lamp]), rule.hoursWanted(now, lamp));
        matching.setHours(other, now.hoursAwake(now.home[other]), rule.hoursWanted(now, other));
        return matching.hoursAtOdds(lamp, other);
    }

    public int better(int lamp) throws NoSuchElementException {
        if (lamp != NONE) {
            needLamp(lamp);
        }
        int cast = now.soundTwins();
        if (lamp != NONE && (cast >> lamp & 1) == 0) {
            return NONE;
        }
        for (int one = 0; one < now.lamps; one++) {
            matching.setHours(one, now.hoursAwake(now.home[one]), rule.hoursWanted(now, one));
        }
        matching.weigh(cast);
        return lamp == NONE ? matching.leastCost(cast) : matching.partner(cast, lamp);
    }

    public int treaty(int house) throws NoSuchElementException {
        needHouse(house);
        int fewest = complaintsOfADay(house, now.sleeps[house]);
        int best = NONE;
        for (int sleeps = 0; sleeps < DAY; sleeps++) {
            int complaints = complaintsOfADay(house, sleeps);
            if (complaints < fewest) {
                fewest = complaints;
                best = sleeps;
            }
        }
        return best;
    }

    public int fund(int lamp) throws NoSuchElementException {
        needLamp(lamp);
        trial.copyFrom(now);
        trial.shatter(lamp);
        int bits = 0;
        for (int house = 0; house < now.houses; house++) {
            if (now.hasSoundLamp(house) && !trial.hasSoundLamp(house)) {
                bits |= 1 << house;
            }
        }
        return bits;
    }

    public int signals(int lamps) throws IllegalArgumentException {
        if ((lamps & ~now.allLamps()) != 0) {
            throw new IllegalArgumentException("there are no such lamps");
        }
        int many = Integer.bitCount(lamps);
        int rounds = 0;
        for (int told = 1; told < many; told *= 2) {
            rounds++;
        }
        return rounds;
    }

    // ---- what is seen

    public int see(int lamp, int hours, boolean lit) throws NoSuchElementException {
        needLamp(lamp);
        if (hours < 1 || hours > MOST_PASSING || sightings.size >= MOST_SEEN) {
            return refuse(SIGHTS);
        }
        sightings.add(lamp, hours, lit);
        return sightings.size;
    }

    public int whose(int lamp) throws NoSuchElementException {
        needLamp(lamp);
        trial.copyFrom(now);
        int without = isAllSeenSo() ? 1 << MOST_LAMPS : 0;
        return without | changesThatFit(lamp);
    }

    public int look(int lamp, int what) throws NoSuchElementException {
        needLamp(lamp);
        needHourOrMany(what);
        int rows = foreseeChanges(lamp, changesThatFit(lamp));
        int hour = NONE;
        int most = 0;
        for (int h = 0; h < MOST_PASSING; h++) {
            int unlike = unlikeSets(rows, h);
            if (unlike > most) {
                most = unlike;
                hour = h + 1;
            }
        }
        return what == 0 ? hour : most;
    }

    public void forget() {
        sightings.clear();
    }

    // ---- a game, winters

    public int game(int lamp, int other, int what) throws NoSuchElementException, IllegalArgumentException {
        needLamp(lamp);
        needLamp(other);
        needHourOrMany(what);
        if (now.twin[lamp] != other || !now.canBeLit(lamp)) {
            throw new IllegalArgumentException("they are no twins, or can't be lit");
        }
        int hourOfDay = now.hour % DAY;
        duel.lit = now.isLit(lamp);
        duel.firstFlicksFirst = lamp < other;
        duel.firstWants = rule.wantsLit(now, lamp, hourOfDay);
        duel.secondWants = rule.wantsLit(now, other, hourOfDay);
        return what == 0 ? duel.restingCouples() : duel.firstRestingCouple();
    }

    public int winter(int seed, int n, int what) throws NoSuchElementException, IllegalArgumentException {
        if (what < 0 || what > 2) {
            throw new NoSuchElementException("a winter has no such thing");
        }
        needAhead(n);
        trial.copyFrom(now);
        dice.seed = seed;
        int complaints = 0;
        for (int i = 0; i < n; i++) {
            dice.befall(trial);
            evening.passHour(rule, trial);
            complaints += Integer.bitCount(evening.complaints);
        }
        if (what == 0) {
            return complaints;
        }
        return Integer.bitCount(what == 1 ? trial.lit : trial.broken);
    }

    // ---- an image

    public void image() {
        picture.kept = true;
        picture.town.copyFrom(now);
        picture.acts.copyFrom(acts);
        picture.sightings.copyFrom(sightings);
        System.arraycopy(status, 0, picture.status, 0, 3);
    }

    public boolean restore() {
        if (!picture.kept) {
            return false;
        }
        now.copyFrom(picture.town);
        acts.copyFrom(picture.acts);
        sightings.copyFrom(picture.sightings);
        System.arraycopy(picture.status, 0, status, 0, 3);
        return true;
    }

    // ---- what several calls need

    private void needHouse(int house) {
        if (house < 0 || house >= now.houses) {
            throw new NoSuchElementException("there is no such house");
        }
    }

    private void needLamp(int lamp) {
        if (lamp < 0 || lamp >= now.lamps) {
            throw new NoSuchElementException("there is no such lamp");
        }
    }

    private static void needHourOrMany(int what) {
        if (what != 0 && what != 1) {
            throw new NoSuchElementException("what is 0 or 1");
        }
    }

    private static void needAhead(int hours) {
        if (hours < 0 || hours > MOST_AHEAD) {
            throw new IllegalArgumentException("hours are 0 to 96");
        }
    }

    private static boolean isHourOfDay(int hour) {
        return hour >= 0 && hour < DAY;
    }

    private int refuse(int which) {
        status[which]++;
        return NONE;
    }

    private int wantedByAwake(int hourOfDay) {
        int many = 0;
        for (int lamp = 0; lamp < now.lamps; lamp++) {
            if (now.isAwake(now.home[lamp], hourOfDay) && rule.wantsLit(now, lamp, hourOfDay)) {
                many++;
            }
        }
        return many;
    }

    private int complaintsOfADay(int house, int sleeps) {
        trial.copyFrom(now);
        trial.sleeps[house] = sleeps;
        int many = 0;
        for (int i = 0; i < DAY; i++) {
            evening.passHour(rule, trial);
            many += Integer.bitCount(evening.complaints);
        }
        return many;
    }

    /** Whether the trial town, as it is now, would show all that is seen. */
    private boolean isAllSeenSo() {
        int last = sightings.lastHour();
        for (int hour = 1; hour <= last; hour++) {
            evening.passHour(rule, trial);
            if (!sightings.agree(hour, evening.litIn)) {
                return false;
            }
        }
        return true;
    }

    private int changesThatFit(int lamp) {
        int bits = 0;
        for (int other = 0; other < now.lamps; other++) {
            if (now.canChangeTwins(lamp, other)) {
                trial.copyFrom(now);
                trial.changeTwins(lamp, other);
                if (isAllSeenSo()) {
                    bits |= 1 << other;
                }
            }
        }
        return bits;
    }

    /** Fills a row of visions for each lamp of the set: what would be lit hour by hour. */
    private int foreseeChanges(int lamp, int others) {
        int rows = 0;
        for (int other = 0; other < now.lamps; other++) {
            if ((others >> other & 1) == 1) {
                trial.copyFrom(now);
                trial.changeTwins(lamp, other);
                for (int hour = 0; hour < MOST_PASSING; hour++) {
                    evening.passHour(rule, trial);
                    visions[rows][hour] = evening.litIn;
                }
                rows++;
            }
        }
        return rows;
    }

    private int unlikeSets(int rows, int hour) {
        int unlike = 0;
        for (int row = 0; row < rows; row++) {
            int like = 0;
            for (int earlier = 0; earlier < row; earlier++) {
                if (visions[earlier][hour] == visions[row][hour]) {
                    like++;
                }
            }
            if (like == 0) {
                unlike++;
            }
        }
        return unlike;
    }

    /** A street in one moment: all that acts change, and what they leave. */
    private static final class Town {
        int houses;
        int lamps;
        int hour;
        int lit;
        int broken;
        final int[] kind = new int[MOST_HOUSES];
        final int[] wakes = new int[MOST_HOUSES];
        final int[] sleeps = new int[MOST_HOUSES];
        final int[] home = new int[MOST_LAMPS];
        final int[] oil = new int[MOST_LAMPS];
        final int[] twin = new int[MOST_LAMPS];

        void clear() {
            houses = 0;
            lamps = 0;
            hour = 0;
            lit = 0;
            broken = 0;
        }

        void copyFrom(Town other) {
            houses = other.houses;
            lamps = other.lamps;
            hour = other.hour;
            lit = other.lit;
            broken = other.broken;
            System.arraycopy(other.kind, 0, kind, 0, MOST_HOUSES);
            System.arraycopy(other.wakes, 0, wakes, 0, MOST_HOUSES);
            System.arraycopy(other.sleeps, 0, sleeps, 0, MOST_HOUSES);
            System.arraycopy(other.home, 0, home, 0, MOST_LAMPS);
            System.arraycopy(other.oil, 0, oil, 0, MOST_LAMPS);
            System.arraycopy(other.twin, 0, twin, 0, MOST_LAMPS);
        }

        void addHouse(int itsKind, int itsWakes, int itsSleeps) {
            if (houses < MOST_HOUSES) {
                kind[houses] = itsKind;
                wakes[houses] = itsWakes;
                sleeps[houses] = itsSleeps;
                houses++;
            }
        }

        void addLamp(int itsHome, int itsOil) {
            if (lamps < MOST_LAMPS) {
                home[lamps] = itsHome;
                oil[lamps] = itsOil;
                twin[lamps] = NONE;
                lamps++;
            }
        }

        boolean isLit(int lamp) {
            return (lit >> lamp & 1) == 1;
        }

        boolean isBroken(int lamp) {
            return (broken >> lamp & 1) == 1;
        }

        boolean isAwake(int house, int hourOfDay) {
            int from = wakes[house];
            int to = sleeps[house];
            if (from == to) {
                return true;
            }
            if (from < to) {
                return hourOfDay >= from && hourOfDay < to;
            }
            return hourOfDay >= from || hourOfDay < to;
        }

        int hoursAwake(int house) {
            int bits = 0;
            for (int hourOfDay = 0; hourOfDay < DAY; hourOfDay++) {
                if (isAwake(house, hourOfDay)) {
                    bits |= 1 << hourOfDay;
                }
            }
            return bits;
        }

        int awakeHouses(int hourOfDay) {
            int bits = 0;
            for (int house = 0; house < houses; house++) {
                if (isAwake(house, hourOfDay)) {
                    bits |= 1 << house;
                }
            }
            return bits;
        }

        /** Lamps whose house is awake in the next hour, as bits. */
        int awakeLamps() {
            int bits = 0;
            for (int lamp = 0; lamp < lamps; lamp++) {
                if (isAwake(home[lamp], hour % DAY)) {
                    bits |= 1 << lamp;
                }
            }
            return bits;
        }

        int allLamps() {
            return (1 << lamps) - 1;
        }

        int lampsOf(int house) {
            int bits = 0;
            for (int lamp = 0; lamp < lamps; lamp++) {
                if (home[lamp] == house) {
                    bits |= 1 << lamp;
                }
            }
            return bits;
        }

        int oilInAll() {
            int sum = 0;
            for (int lamp = 0; lamp < lamps; lamp++) {
                sum += oil[lamp];
            }
            return sum;
        }

        int singletons() {
            int bits = 0;
            for (int lamp = 0; lamp < lamps; lamp++) {
                if (twin[lamp] == NONE) {
                    bits |= 1 << lamp;
                }
            }
            return bits;
        }

        int happyLamps() {
            int bits = 0;
            for (int lamp = 0; lamp < lamps; lamp++) {
                int other = twin[lamp];
                if (other >= 0 && other < lamps && home[other] == home[lamp]) {
                    bits |= 1 << lamp;
                }
            }
            return bits;
        }

        /** The lamp and its twin, as bits. */
        int couple(int lamp) {
            int other = twin[lamp];
            return other == NONE ? 1 << lamp : 1 << lamp | 1 << other;
        }

        boolean canBeLit(int lamp) {
            int other = twin[lamp];
            if (other >= 0 && other < lamps && oil[other] == 0) {
                return false;
            }
            return oil[lamp] > 0 && (broken & couple(lamp)) == 0;
        }

        void putOut(int lamp) {
            lit &= ~couple(lamp);
        }

        void light(int lamp) {
            lit |= couple(lamp);
        }

        void flickByHand(int lamp) {
            if (isLit(lamp)) {
                putOut(lamp);
            } else if (canBeLit(lamp)) {
                light(lamp);
            }
        }

        void shatter(int lamp) {
            putOut(lamp);
            broken |= 1 << lamp;
        }

        /** Lamps that have a twin, neither of both being broken, as bits. */
        int soundTwins() {
            int bits = 0;
            for (int lamp = 0; lamp < lamps; lamp++) {
                if (twin[lamp] != NONE && (broken & couple(lamp)) == 0) {
                    bits |= 1 << lamp;
                }
            }
            return bits;
        }

        boolean hasSoundLamp(int house) {
            for (int lamp = 0; lamp < lamps; lamp++) {
                if (home[lamp] == house && (broken & couple(lamp)) == 0) {
                    return true;
                }
            }
            return false;
        }

        int plungedBy(int house) {
            int bits = 0;
            for (int lamp = 0; lamp < lamps; lamp++) {
                int other = twin[lamp];
                if (home[lamp] == house && other >= 0 && other < lamps) {
                    bits |= 1 << home[other];
                }
            }
            return bits;
        }

        /** These houses and all to which one couple of twins leads from them. */
        int oneTwinFurther(int some) {
            int bits = some;
            for (int house = 0; house < houses; house++) {
                if ((some >> house & 1) == 1) {
                    bits |= plungedBy(house);
                }
            }
            return bits;
        }

        int fewestTwins(int house, int other) {
            int reached = 1 << house;
            for (int twins = 0; twins < MOST_HOUSES; twins++) {
                if ((reached >> other & 1) == 1) {
                    return twins;
                }
                reached = oneTwinFurther(reached);
            }
            return NONE;
        }

        int groups() {
            int many = 0;
            int grouped = 0;
            for (int house = 0; house < houses; house++) {
                if ((grouped >> house & 1) == 0) {
                    many++;
                    grouped |= groupOf(house);
                }
            }
            return many;
        }

        private int groupOf(int house) {
            int reached = 1 << house;
            for (int twins = 0; twins < MOST_HOUSES; twins++) {
                reached = oneTwinFurther(reached);
            }
            return reached;
        }

        boolean canChangeTwins(int lamp, int other) {
            return other != lamp && other != twin[lamp] && twin[lamp] != NONE && twin[other] != NONE;
        }

        void changeTwins(int lamp, int other) {
            int twinOfLamp = twin[lamp];
            int twinOfOther = twin[other];
            if (twinOfLamp < 0 || twinOfLamp >= lamps || twinOfOther < 0 || twinOfOther >= lamps) {
                return;
            }
            twin[lamp] = twinOfOther;
            twin[twinOfOther] = lamp;
            twin[other] = twinOfLamp;
            twin[twinOfLamp] = other;
        }
    }

    /** Who wants light when: the rule that a text tells, as steps on a stack, or what is customary without. */
    private static final class Rule {
        /** Far more than the operands that six expressions one within another leave waiting. */
        private static final int MOST_STACKED = 64;
        private static final int VALUES = 6;

        private final int[] code = new int[MOST_BYTES];
        private final int[] stack = new int[MOST_STACKED];
        private final int[] values = new int[VALUES];
        private int length;

        void clear() {
            length = 0;
        }

        boolean isTold() {
            return length > 0;
        }

        /** A step is a number, or less than 0: a token that stands for a value or for what joins values. */
        void add(int step) {
            if (length < code.length) {
                code[length] = step;
                length++;
            }
        }

        void copyFrom(Rule other) {
            length = other.length;
            System.arraycopy(other.code, 0, code, 0, MOST_BYTES);
        }

        boolean wantsLit(Town town, int lamp, int hourOfDay) {
            int house = town.home[lamp];
            if (!isTold()) {
                return isCustomary(town.kind[house], town.isAwake(house, hourOfDay), hourOfDay);
            }
            values[0] = hourOfDay;
            values[1] = town.kind[house];
            values[2] = town.oil[lamp];
            values[3] = house;
            values[4] = Integer.bitCount(town.lampsOf(house));
            values[5] = town.isAwake(house, hourOfDay) ? 1 : 0;
            return worth() > 0;
        }

        int hoursWanted(Town town, int lamp) {
            int bits = 0;
            for (int hourOfDay = 0; hourOfDay < DAY; hourOfDay++) {
                if (wantsLit(town, lamp, hourOfDay)) {
                    bits |= 1 << hourOfDay;
                }
            }
            return bits;
        }

        private static boolean isCustomary(int kind, boolean awake, int hourOfDay) {
            if (kind == ALLEY) {
                return false;
            }
            boolean dark = hourOfDay >= 18 || hourOfDay < (kind == BALLROOM ? 9 : 6);
            return dark && (awake || kind == TOWER);
        }

        private int worth() {
            int top = 0;
            for (int i = 0; i < length && i < code.length; i++) {
                int step = code[i];
                if (step >= 0 || step <= -Reader.FIRST_VALUE) {
                    if (top >= stack.length) {
                        return 0;
                    }
                    stack[top] = step >= 0 ? step : valueOf(-step - Reader.FIRST_VALUE);
                    top++;
                } else if (step == -Reader.NOT) {
                    if (top < 1) {
                        return 0;
                    }
                    stack[top - 1] = stack[top - 1] == 0 ? 1 : 0;
                } else {
                    if (top < 2) {
                        return 0;
                    }
                    top--;
                    stack[top - 1] = together(-step, stack[top - 1], stack[top]);
                }
            }
            return top < 1 ? 0 : stack[0];
        }

        private int valueOf(int place) {
            return place >= 0 && place < values.length ? values[place] : 0;
        }

        private static int together(int sign, int left, int right) {
            switch (sign) {
                case '+': return left + right;
                case '-': return left - right;
                case '*': return left * right;
                case '/': return right == 0 ? 0 : left / right;
                case '<': return left < right ? 1 : 0;
                case '=': return left == right ? 1 : 0;
                case Reader.AND: return left != 0 && right != 0 ? 1 : 0;
                default: return left != 0 || right != 0 ? 1 : 0;
            }
        }
    }

    /** The tape, and the parsing of a street from it into a town and a rule of its own. */
    private static final class Reader {
        /** Tokens: signs are their own bytes, words lie above all bytes. */
        private static final int END = 0;
        private static final int STRANGE = 1;
        private static final int NUMBER = 2;
        private static final int FIRST_WORD = 300;
        private static final int FIRST_KIND = 300;
        private static final int LAST_KIND = 303;
        private static final int LAMP = 304;
        private static final int TWINS = 305;
        private static final int WANTS = 306;
        static final int OR = 307;
        static final int AND = 308;
        static final int NOT = 309;
        static final int FIRST_VALUE = 310;
        private static final int LAST_VALUE = 315;
        private static final int OTHER_WORD = 316;

        private static final int MOST_DIGITS = 4;
        private static final int MOST_NOTS = 6;
        private static final int MOST_WITHIN = 6;

        /** Faults. */
        private static final int MISPLACED = 1;
        private static final int TOO_MUCH = 2;
        private static final int UNTOLD = 3;
        private static final int PAIRED = 4;
        private static final int TOLD_TWICE = 5;

        final Town town = new Town();
        final Rule rule = new Rule();
        int taped;
        int place = NONE;
        private final byte[] tape = new byte[MOST_BYTES];
        private int limit;
        private int found;
        private int token;
        private int start;
        private int end;
        private int digits;
        private int number;

        void append(int four) {
            for (int shift = 24; shift >= 0; shift -= 8) {
                if (taped < tape.length) {
                    tape[taped] = (byte) (four >> shift);
                    taped++;
                }
            }
        }

        /** The fault (0: none) of the tape's first bytes; the tape is empty then. */
        int parse(int bytes) {
            limit = bytes < 0 ? 0 : bytes > taped ? taped : bytes;
            town.clear();
            rule.clear();
            found = 0;
            place = NONE;
            end = 0;
            accept();
            for (int i = 0; i < MOST_BYTES && found == 0 && token != END; i++) {
                line();
            }
            taped = 0;
            return found;
        }

        /** Only the first fault counts: what follows it is never looked at. */
        private void fail(int fault) {
            if (found == 0) {
                found = fault;
                place = start;
            }
        }

        private void line() {
            if (token >= FIRST_KIND && token <= LAST_KIND) {
                houseLine(token - FIRST_KIND);
            } else if (token == LAMP) {
                lampLine();
            } else if (token == TWINS) {
                twinsLine();
            } else if (token == WANTS) {
                if (rule.isTold()) {
                    fail(TOLD_TWICE);
                }
                accept();
                expression(0);
            } else {
                fail(MISPLACED);
            }
            expect(';');
        }

        private void houseLine(int kind) {
            if (town.houses >= MOST_HOUSES) {
                fail(TOO_MUCH);
            }
            accept();
            int wakes = numberUpTo(DAY - 1, TOO_MUCH);
            accept();
            int sleeps = numberUpTo(DAY - 1, TOO_MUCH);
            accept();
            if (found == 0) {
                town.addHouse(kind, wakes, sleeps);
            }
        }

        private void lampLine() {
            if (town.lamps >= MOST_LAMPS) {
                fail(TOO_MUCH);
            }
            accept();
            int home = numberUpTo(town.houses - 1, UNTOLD);
            accept();
            int oil = numberUpTo(MOST_OIL, TOO_MUCH);
            accept();
            if (found == 0) {
                town.addLamp(home, oil);
            }
        }

        private void twinsLine() {
            accept();
            int first = numberUpTo(town.lamps - 1, UNTOLD);
            if (found == 0 && town.twin[first] != NONE) {
                fail(PAIRED);
            }
            accept();
            int second = numberUpTo(town.lamps - 1, UNTOLD);
            if (found == 0 && (town.twin[second] != NONE || second == first)) {
                fail(PAIRED);
            }
            accept();
            if (found == 0) {
                town.twin[first] = second;
                town.twin[second] = first;
            }
        }

        /** The number that stands here (0 after a fault); above the most it is the fault told. */
        private int numberUpTo(int most, int fault) {
            if (token != NUMBER) {
                fail(MISPLACED);
            } else if (digits > MOST_DIGITS) {
                fail(TOO_MUCH);
            } else if (number > most) {
                fail(fault);
            }
            return found == 0 ? number : 0;
        }

        private void expression(int within) {
            if (found != 0) {
                return;
            }
            if (within >= MOST_WITHIN) {
                fail(token == NUMBER || token >= FIRST_WORD || token == '(' ? TOO_MUCH : MISPLACED);
                return;
            }
            conjunction(within);
            for (int i = 0; i < MOST_BYTES && found == 0 && token == OR; i++) {
                accept();
                conjunction(within);
                rule.add(-OR);
            }
        }

        private void conjunction(int within) {
            negation(within);
            for (int i = 0; i < MOST_BYTES && found == 0 && token == AND; i++) {
                accept();
                negation(within);
                rule.add(-AND);
            }
        }

        private void negation(int within) {
            int nots = 0;
            for (int i = 0; i < MOST_NOTS && token == NOT; i++) {
                accept();
                nots++;
            }
            if (token == NOT && nots == MOST_NOTS) {
                fail(TOO_MUCH);
                return;
            }
            comparison(within);
            for (int i = 0; i < nots; i++) {
                rule.add(-NOT);
            }
        }

        private void comparison(int within) {
            sum(within);
            if (found == 0 && (token == '<' || token == '=')) {
                int sign = token;
                accept();
                sum(within);
                rule.add(-sign);
            }
        }

        private void sum(int within) {
            product(within);
            for (int i = 0; i < MOST_BYTES && found == 0 && (token == '+' || token == '-'); i++) {
                int sign = token;
                accept();
                product(within);
                rule.add(-sign);
            }
        }

        private void product(int within) {
            part(within);
            for (int i = 0; i < MOST_BYTES && found == 0 && (token == '*' || token == '/'); i++) {
                int sign = token;
                accept();
                part(within);
                rule.add(-sign);
            }
        }

        private void part(int within) {
            if (token == NUMBER) {
                if (digits > MOST_DIGITS) {
                    fail(TOO_MUCH);
                }
                rule.add(number);
                accept();
            } else if (token >= FIRST_VALUE && token <= LAST_VALUE) {
                rule.add(-token);
                accept();
            } else if (token == '(') {
                accept();
                expression(within + 1);
                expect(')');
            } else {
                fail(token >= FIRST_WORD ? UNTOLD : MISPLACED);
            }
        }

        private void expect(int sign) {
            if (token != sign) {
                fail(MISPLACED);
            }
            accept();
        }

        /** Goes on to the next token; behind a fault it stays where it is. */
        private void accept() {
            if (found != 0) {
                return;
            }
            start = end;
            for (int i = end; i < limit && isBlank(tape[i]); i++) {
                start = i + 1;
            }
            end = start;
            if (start >= limit) {
                token = END;
            } else if (isLetter(tape[start])) {
                readWord();
            } else if (isDigit(tape[start])) {
                readNumber();
            } else {
                end = start + 1;
                token = isSign(tape[start]) ? tape[start] : STRANGE;
            }
        }

        private void readNumber() {
            digits = 0;
            number = 0;
            for (int i = start; i < limit && isDigit(tape[i]); i++) {
                digits++;
                if (digits <= MOST_DIGITS) {
                    number = number * 10 + tape[i] - '0';
                }
                end = i + 1;
            }
            token = NUMBER;
        }

        private void readWord() {
            for (int i = start; i < limit && isLetter(tape[i]); i++) {
                end = i + 1;
            }
            token = OTHER_WORD;
            for (int word = FIRST_WORD; word < OTHER_WORD; word++) {
                if (isSpelt(textOf(word))) {
                    token = word;
                }
            }
        }

        private boolean isSpelt(String text) {
            if (text.length() != end - start) {
                return false;
            }
            for (int i = 0; i < text.length() && start + i < limit; i++) {
                if (text.charAt(i) != tape[start + i]) {
                    return false;
                }
            }
            return true;
        }

        private static String textOf(int word) {
            switch (word - FIRST_WORD) {
                case 0: return "home";
                case 1: return "tower";
                case 2: return "alley";
                case 3: return "ballroom";
                case 4: return "lamp";
                case 5: return "twins";
                case 6: return "wants";
                case 7: return "or";
                case 8: return "and";
                case 9: return "not";
                case 10: return "hour";
                case 11: return "kind";
                case 12: return "oil";
                case 13: return "house";
                case 14: return "lamps";
                default: return "awake";
            }
        }

        private static boolean isBlank(int sign) {
            return sign == 32 || sign == 10;
        }

        private static boolean isLetter(int sign) {
            return sign >= 'a' && sign <= 'z';
        }

        private static boolean isDigit(int sign) {
            return sign >= '0' && sign <= '9';
        }

        private static boolean isSign(int sign) {
            switch (sign) {
                case ';':
                case '(':
                case ')':
                case '+':
                case '-':
                case '*':
                case '/':
                case '<':
                case '=':
                    return true;
                default:
                    return false;
            }
        }
    }

    /** Lets hours go by in a town, and tells of the last one who was lit, who complained, who quarrelled. */
    private static final class Evening {
        int litIn;
        /** Lamps that their awake house wanted otherwise, as bits. */
        int complaints;
        int quarrelsIn;
        private int awake;
        private int wanted;

        void passHour(Rule rule, Town town) {
            awake = town.awakeLamps();
            wanted = 0;
            for (int lamp = 0; lamp < town.lamps; lamp++) {
                // a house that sleeps neither flicks nor complains, so what it wants is not asked
                if ((awake >> lamp & 1) == 1 && rule.wantsLit(town, lamp, town.hour % DAY)) {
                    wanted |= 1 << lamp;
                }
            }
            flickAll(town);
            litIn = town.lit;
            complaints = awake & (wanted ^ litIn);
            burn(town);
            town.hour++;
        }

        private void flickAll(Town town) {
            quarrelsIn = 0;
            int flicked = 0;
            for (int lamp = 0; lamp < town.lamps; lamp++) {
                boolean light = (wanted >> lamp & 1) == 1;
                boolean otherwise = town.isLit(lamp) != light;
                if ((awake >> lamp & 1) == 1 && otherwise && (!light || town.canBeLit(lamp))) {
                    if (light) {
                        town.light(lamp);
                    } else {
                        town.putOut(lamp);
                    }
                    quarrelsIn += flicked >> lamp & 1;
                    flicked |= town.couple(lamp);
                }
            }
        }

        private static void burn(Town town) {
            int spent = 0;
            for (int lamp = 0; lamp < town.lamps; lamp++) {
                if (town.isLit(lamp)) {
                    town.oil[lamp]--;
                    if (town.oil[lamp] <= 0) {
                        spent |= town.couple(lamp);
                    }
                }
            }
            town.lit &= ~spent;
        }
    }

    /** The towns as they were ahead of the latest acts, the oldest first. */
    private static final class History {
        int size;
        private final Town[] towns = new Town[MOST_ACTS];

        History() {
            for (int i = 0; i < MOST_ACTS; i++) {
                towns[i] = new Town();
            }
        }

        void clear() {
            size = 0;
        }

        void keep(Town town) {
            if (size >= MOST_ACTS) {
                dropOldest();
            }
            towns[size].copyFrom(town);
            size++;
        }

        private void dropOldest() {
            Town oldest = towns[0];
            for (int i = 1; i < MOST_ACTS; i++) {
                towns[i - 1] = towns[i];
            }
            // its row is used again by the act that comes
            towns[MOST_ACTS - 1] = oldest;
            size = MOST_ACTS - 1;
        }

        void takeBack(Town town) {
            if (size > 0) {
                size--;
                town.copyFrom(towns[size]);
            }
        }

        void copyFrom(History other) {
            size = other.size;
            for (int i = 0; i < size; i++) {
                towns[i].copyFrom(other.towns[i]);
            }
        }
    }

    /** Which lamp was seen lit, or not, in which hour from now. */
    private static final class Sightings {
        int size;
        private int litOnes;
        private final int[] lamp = new int[MOST_SEEN];
        private final int[] hour = new int[MOST_SEEN];

        void clear() {
            size = 0;
            litOnes = 0;
        }

        void add(int itsLamp, int itsHour, boolean itsLit) {
            if (size < MOST_SEEN) {
                lamp[size] = itsLamp;
                hour[size] = itsHour;
                if (itsLit) {
                    litOnes |= 1 << size;
                }
                size++;
            }
        }

        void copyFrom(Sightings other) {
            size = other.size;
            litOnes = other.litOnes;
            System.arraycopy(other.lamp, 0, lamp, 0, MOST_SEEN);
            System.arraycopy(other.hour, 0, hour, 0, MOST_SEEN);
        }

        int lastHour() {
            int last = 0;
            for (int i = 0; i < size; i++) {
                last = Math.max(last, hour[i]);
            }
            return last;
        }

        /** Whether all that is seen in this hour is so, these lamps being lit in it. */
        boolean agree(int thisHour, int litIn) {
            for (int i = 0; i < size; i++) {
                if (hour[i] == thisHour && (litIn >> lamp[i] & 1) != (litOnes >> i & 1)) {
                    return false;
                }
            }
            return true;
        }
    }

    /** All that an image keeps. */
    private static final class Picture {
        boolean kept;
        final Town town = new Town();
        final History acts = new History();
        final Sightings sightings = new Sightings();
        final int[] status = new int[3];
    }

    /** Strife of two lamps, and sets of lamps cast two by two with the least of it. */
    private static final class Matching {
        /** More than the strife of any row. */
        private static final int MUCH = 1000000;

        /** By lamp: the hours of the day in which its house is awake, and wants it lit, as bits. */
        private final int[] awake = new int[MOST_LAMPS];
        private final int[] wanted = new int[MOST_LAMPS];
        private final int[][] cost = new int[MOST_LAMPS][MOST_LAMPS];
        /** The least cost by set of lamps of an even number. */
        private final int[] least = new int[1 << MOST_LAMPS];

        void setHours(int lamp, int itsAwake, int itsWanted) {
            awake[lamp] = itsAwake;
            wanted[lamp] = itsWanted;
        }

        int hoursAtOdds(int first, int second) {
            int bothAwake = awake[first] & awake[second] & (wanted[first] ^ wanted[second]);
            int firstAlone = awake[first] & ~awake[second] & wanted[first];
            int secondAlone = awake[second] & ~awake[first] & wanted[second];
            return Integer.bitCount(bothAwake | firstAlone | secondAlone);
        }

        private void price(int lamps) {
            for (int first = 0; first < MOST_LAMPS; first++) {
                for (int second = first + 1; second < MOST_LAMPS; second++) {
                    if ((lamps >> first & 1) == 1 && (lamps >> second & 1) == 1) {
                        cost[first][second] = hoursAtOdds(first, second);
                    }
                }
            }
        }

        /** Fills the least costs of this set of lamps and of all sets within it that can be cast two by two. */
        void weigh(int lamps) {
            price(lamps);
            least[0] = 0;
            for (int set = 1; set < least.length && set <= lamps; set++) {
                if ((set & ~lamps) == 0 && Integer.bitCount(set) % 2 == 0) {
                    least[set] = MUCH;
                    int first = Integer.numberOfTrailingZeros(set);
                    for (int second = first + 1; second < MOST_LAMPS; second++) {
                        if ((set >> second & 1) == 1) {
                            least[set] = Math.min(least[set], costWith(set, first, second));
                        }
                    }
                }
            }
        }

        int leastCost(int lamps) {
            return lamps >= 0 && lamps < least.length ? least[lamps] : 0;
        }

        /** Whose twin a lamp of this set is in the first row of the least cost. */
        int partner(int lamps, int lamp) {
            int set = lamps;
            for (int couples = 0; couples < MOST_LAMPS && set > 0 && set < least.length; couples++) {
                int first = Integer.numberOfTrailingZeros(set);
                int second = first + 1;
                while (second < MOST_LAMPS && !isBest(set, first, second)) {
                    second++;
                }
                if (lamp == first) {
                    return second;
                }
                if (lamp == second) {
                    return first;
                }
                set &= ~(1 << first | 1 << second);
            }
            return NONE;
        }

        private boolean isBest(int set, int first, int second) {
            return (set >> second & 1) == 1 && costWith(set, first, second) == least[set];
        }

        private int costWith(int set, int first, int second) {
            return cost[first][second] + least[set & ~(1 << first | 1 << second)];
        }
    }

    /** The draws of a winter, and what befalls a town by them. */
    private static final class Dice {
        int seed;

        private int draw(int sides) {
            seed = seed * 1103515245 + 12345;
            return sides < 1 ? 0 : (seed >> 16 & 0x7FFF) % sides;
        }

        void befall(Town town) {
            if (town.lamps == 0) {
                return;
            }
            int lamp = draw(town.lamps);
            int event = draw(5);
            if (event == 0) {
                town.flickByHand(lamp);
            } else if (event == 1) {
                if (draw(10) == 0) {
                    town.shatter(lamp);
                }
            } else if (event == 2) {
                town.oil[lamp] = Math.min(MOST_OIL, town.oil[lamp] + 9);
            }
        }
    }

    /** A game of two twins over one flame; the first and the second are as the call tells them. */
    private static final class Duel {
        private static final int CHOICES = 2;

        boolean lit;
        boolean firstFlicksFirst;
        boolean firstWants;
        boolean secondWants;
        private int firstGain;
        private int secondGain;

        int restingCouples() {
            int many = 0;
            for (int first = 0; first < CHOICES; first++) {
                for (int second = 0; second < CHOICES; second++) {
                    many += rests(first, second) ? 1 : 0;
                }
            }
            return many;
        }

        int firstRestingCouple() {
            for (int first = 0; first < CHOICES; first++) {
                for (int second = 0; second < CHOICES; second++) {
                    if (rests(first, second)) {
                        return 10 * first + second;
                    }
                }
            }
            return NONE;
        }

        private boolean rests(int first, int second) {
            play(first == 1, second == 1);
            int firstNow = firstGain;
            int secondNow = secondGain;
            play(first == 0, second == 1);
            int firstElse = firstGain;
            play(first == 1, second == 0);
            int secondElse = secondGain;
            return firstElse <= firstNow && secondElse <= secondNow;
        }

        private void play(boolean first, boolean second) {
            boolean ahead = firstFlicksFirst ? first : second;
            boolean behind = firstFlicksFirst ? second : first;
            int aheadLost = lit != ahead ? 1 : 0;
            int behindLost = ahead != behind ? 1 : 0;
            firstGain = (behind == firstWants ? 3 : 0) - (firstFlicksFirst ? aheadLost : behindLost);
            secondGain = (behind == secondWants ? 3 : 0) - (firstFlicksFirst ? behindLost : aheadLost);
        }
    }
}
