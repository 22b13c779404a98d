/**
 * The summit by seconds: whose each second of the mountain's top is, who stands there when,
 * and what he is fined. Rows of seconds and of people are held as bits, so most of the
 * reckoning is done on whole rows at once and no call makes an object.
 */
public final class SummitTime {
    public static final int NONE = -1, UNKNOWN = -2, OUTSIDE = -3, NOT = -4, FULL = -5;

    private static final int PEOPLE = 6;
    private static final int SETS = 64;
    private static final int LAST_SECOND = 59;
    private static final int LETTERS = 160;
    private static final int CLAUSES = 14;
    private static final int UNDOS = 8;
    private static final int KEPT = 2;
    private static final int SIGHTINGS = 6;
    private static final int CLOCK_MOST = 9;
    private static final int FINE_MOST = 99;
    private static final int STAY_MOST = 6;

    private static final int CLIMBER = 0;
    private static final int GUIDE = 1;
    private static final int MOURNER = 2;
    private static final int BANK = 3;

    private static final long ALL_SECONDS = (1L << 60) - 1;
    private static final long BEFORE_50 = (1L << 50) - 1;

    /** Which kind is right over each: person, climber, guide, mourner, bank. */
    private static final int[] OVER = {-1, 0, 1, 1, 0};

    private final Text text = new Text();
    private final Told told = new Told();
    private final Told draft = new Told();
    private final Day day = new Day();
    private final Ledger ledger = new Ledger(told, day);
    private final Past past = new Past();
    private final Shelf kept = new Shelf(KEPT);
    private final Sightings sightings = new Sightings();
    private int keptBits;

    public SummitTime() {
        keptBits = 0;
    }

    // ---- what is told

    public int write(int letter) {
        if (!isWithin(letter, 0, 255)) {
            return OUTSIDE;
        }
        return text.add(letter) ? text.size() : FULL;
    }

    public int erase() {
        int had = text.size();
        text.empty();
        return had;
    }

    public int fault() {
        draft.copyFrom(told);
        return text.readInto(draft);
    }

    public int top() {
        draft.copyFrom(told);
        if (text.readInto(draft) != NONE) {
            return NOT;
        }
        told.copyFrom(draft);
        day.beginAs(told);
        past.empty();
        sightings.empty();
        keptBits = 0;
        text.empty();
        return text.clausesRead();
    }

    public int person(int person, int what) {
        if (!told.knows(person)) {
            return UNKNOWN;
        }
        switch (what) {
            case 0:
                return told.kindOf(person);
            case 1:
                return told.paceOf(person);
            case 2:
                return told.stayOf(person);
            case 3:
                return told.rentOf(person);
            case 4:
                return day.startOf(person);
            case 5:
                return day.isRoped(person) ? 1 : 0;
            case 6:
                return firstStood(person);
            case 7:
                return Long.bitCount(standsNow(person));
            case 8:
                return ledger.fine(person, day.clockOn);
            case 9:
                return Long.bitCount(day.landOf(person));
            default:
                return OUTSIDE;
        }
    }

    public int second(int second, int what) {
        if (!isWithin(second, 0, LAST_SECOND)) {
            return OUTSIDE;
        }
        switch (what) {
            case 0:
                return day.ownerOf(second);
            case 1:
                return (told.clouds & 1L << second) != 0 ? 1 : 0;
            case 2:
                return whoStandIn(second);
            default:
                return OUTSIDE;
        }
    }

    public int as(int person, int kind) {
        if (!told.knows(person)) {
            return UNKNOWN;
        }
        if (!isWithin(kind, 0, OVER.length - 1)) {
            return OUTSIDE;
        }
        if (!isUnder(told.kindOf(person) + 1, kind)) {
            return NOT;
        }
        return told.walkOf(person) + 100 * told.tollOf(person);
    }

    // ---- what is done

    public int start(int person, int second) {
        if (!told.knows(person)) {
            return UNKNOWN;
        }
        if (!isWithin(second, 0, LAST_SECOND)) {
            return OUTSIDE;
        }
        past.record(day);
        day.setStart(person, second);
        return second + told.walkOf(person) + day.clockOn;
    }

    public int stays(int person) {
        if (!told.knows(person)) {
            return UNKNOWN;
        }
        int had = day.startOf(person);
        if (had == NONE) {
            return NOT;
        }
        past.record(day);
        day.setStart(person, NONE);
        return had;
    }

    public int rope(int person, int on) {
        if (!told.knows(person)) {
            return UNKNOWN;
        }
        if (!isWithin(on, 0, 1)) {
            return OUTSIDE;
        }
        past.record(day);
        int had = day.isRoped(person) ? 1 : 0;
        day.setRope(person, on == 1);
        return had;
    }

    public int clock(int k) {
        if (!isWithin(k, 0, CLOCK_MOST)) {
            return OUTSIDE;
        }
        past.record(day);
        int was = day.clockOn;
        day.clockOn = k;
        return was;
    }

    public int halve(int person, int other) {
        if (!areTwo(person, other)) {
            return UNKNOWN;
        }
        long land = day.landOf(person);
        if (Long.bitCount(land) < 2) {
            return NOT;
        }
        past.record(day);
        long heirs = eachOther(land);
        day.give(heirs, other);
        return Long.bitCount(heirs);
    }

    public int sell(int second, int person) {
        if (person != NONE && !told.knows(person)) {
            return UNKNOWN;
        }
        if (!isWithin(second, 0, LAST_SECOND)) {
            return OUTSIDE;
        }
        int owner = day.ownerOf(second);
        if (owner == person) {
            return NOT;
        }
        past.record(day);
        day.give(1L << second, person);
        return owner;
    }

    public int undo() {
        return past.takeBack(day) ? past.size() : NOT;
    }

    public int keep(int k) {
        if (!isWithin(k, 0, KEPT - 1)) {
            return UNKNOWN;
        }
        kept.put(k, day);
        keptBits |= 1 << k;
        return day.clockOn;
    }

    public int back(int k) {
        if (!isWithin(k, 0, KEPT - 1)) {
            return UNKNOWN;
        }
        if ((keptBits & 1 << k) == 0) {
            return NOT;
        }
        kept.fetch(k, day);
        past.empty();
        return day.clockOn;
    }

    // ---- foretold

    public int best(int person, int what) {
        if (!told.knows(person)) {
            return UNKNOWN;
        }
        if (!isWithin(what, 0, 1)) {
            return OUTSIDE;
        }
        int start = ledger.bestStart(person);
        if (start == NONE || what == 0) {
            return start;
        }
        return ledger.fineFrom(person, start);
    }

    public int order(int set, int a, int what) {
        if ((set & ~told.everybody()) != 0) {
            return UNKNOWN;
        }
        if (!isWithin(a, 0, LAST_SECOND) || !isWithin(what, 0, PEOPLE)) {
            return OUTSIDE;
        }
        int least = ledger.leastInOrder(set, a);
        if (what == 0 || least == NONE) {
            return least;
        }
        return ledger.placeInOrder(set, a, what);
    }

    public long reached() {
        long seconds = 0;
        for (int p = 0; p < told.people; p++) {
            seconds |= span(told.walkOf(p) + day.clockOn, LAST_SECOND);
        }
        return seconds;
    }

    public long free(int person) {
        return told.knows(person) ? ledger.freeFor(person) : UNKNOWN;
    }

    public int ropes(int n) {
        if (!isWithin(n, 0, FINE_MOST)) {
            return OUTSIDE;
        }
        int needed = 0;
        for (int p = 0; p < told.people; p++) {
            int whole = ledger.wholeFine(p, day.clockOn);
            if (whole / 2 > n) {
                return NONE;
            }
            if (whole > n) {
                needed |= 1 << p;
            }
        }
        return needed;
    }

    public int together(int person, int other) {
        if (!areTwo(person, other)) {
            return UNKNOWN;
        }
        return Long.bitCount(standsNow(person) & standsNow(other));
    }

    // ---- what was seen

    public int seen(int person, int fine) {
        if (!told.knows(person)) {
            return UNKNOWN;
        }
        if (!isWithin(fine, 0, FINE_MOST)) {
            return OUTSIDE;
        }
        return sightings.add(person, fine) ? sightings.size() : FULL;
    }

    public int forget() {
        int had = sightings.size();
        sightings.empty();
        return had;
    }

    public int clocks() {
        int fitting = 0;
        for (int k = 0; k <= CLOCK_MOST; k++) {
            if (sightings.fit(ledger, k)) {
                fitting |= 1 << k;
            }
        }
        return fitting;
    }

    public int clear(int person, int k, int q, int part) {
        if (!told.knows(person)) {
            return UNKNOWN;
        }
        if (!isWithin(k, 0, STAY_MOST) || !isWithin(q, 0, 10) || !isWithin(part, 0, 1)) {
            return OUTSIDE;
        }
        int stood = Long.bitCount(standsNow(person));
        int above = waysClear(stood, k, q);
        int below = power(10, stood);
        int shared = commonDivisor(above, below);
        if (shared < 1) {
            return NONE;
        }
        return (part == 0 ? above : below) / shared;
    }

    public int count(int what) {
        switch (what) {
            case 0:
                return told.people;
            case 1:
                return day.clockOn;
            case 2:
                return day.whoGo();
            case 3:
                return finesOfAll();
            case 4:
                return Long.bitCount(day.landOfAll());
            case 5:
                return Long.bitCount(told.clouds);
            case 6:
                return day.ropes;
            case 7:
                return sightings.size();
            case 8:
                return past.size();
            case 9:
                return text.size();
            default:
                return OUTSIDE;
        }
    }

    // ---- helpers of the face

    private boolean areTwo(int person, int other) {
        return told.knows(person) && told.knows(other) && person != other;
    }

    private long standsNow(int person) {
        return ledger.stands(person, day.startOf(person), day.clockOn);
    }

    private int firstStood(int person) {
        if (standsNow(person) == 0) {
            return NONE;
        }
        return day.startOf(person) + told.walkOf(person) + day.clockOn;
    }

    private int whoStandIn(int second) {
        int who = 0;
        for (int p = 0; p < told.people; p++) {
            if ((standsNow(p) & 1L << second) != 0) {
                who |= 1 << p;
            }
        }
        return who;
    }

    private int finesOfAll() {
        int sum = 0;
        for (int p = 0; p < told.people; p++) {
            sum += ledger.fine(p, day.clockOn);
        }
        return sum;
    }

    // ---- plain reckoning

    private static boolean isWithin(int number, int least, int most) {
        return least <= number && number <= most;
    }

    /** Seconds from .. to as bits; what lies behind the last second is left off. */
    private static long span(int from, int to) {
        int end = to < LAST_SECOND ? to : LAST_SECOND;
        if (from < 0 || from > end) {
            return 0;
        }
        return (-1L << from) & (-1L >>> (63 - end));
    }

    /** Whether a kind is the asked one or stands under it. */
    private static boolean isUnder(int kind, int asked) {
        int at = kind;
        for (int step = 0; step < OVER.length; step++) {
            if (at == asked) {
                return true;
            }
            if (at < 0 || at >= OVER.length) {
                return false;
            }
            at = OVER[at];
        }
        return false;
    }

    /** The second, fourth, sixth .. of these seconds. */
    private static long eachOther(long seconds) {
        long chosen = 0;
        boolean isChosen = false;
        for (int s = 0; s <= LAST_SECOND; s++) {
            long bit = 1L << s;
            if ((seconds & bit) != 0) {
                if (isChosen) {
                    chosen |= bit;
                }
                isChosen = !isChosen;
            }
        }
        return chosen;
    }

    /** Of 10 to the power of stood ways, those in which k seconds at least are not clouded. */
    private static int waysClear(int stood, int k, int q) {
        int ways = 0;
        for (int open = k; open <= stood; open++) {
            ways += choose(stood, open) * power(10 - q, open) * power(q, stood - open);
        }
        return ways;
    }

    private static int choose(int all, int some) {
        int ways = 1;
        for (int i = 1; i <= some; i++) {
            ways = ways * (all - i + 1) / i;
        }
        return ways;
    }

    private static int power(int base, int times) {
        int product = 1;
        for (int i = 0; i < times; i++) {
            product *= base;
        }
        return product;
    }

    private static int commonDivisor(int one, int other) {
        int a = one;
        int b = other;
        for (int step = 0; step < 64 && b != 0; step++) {
            int rest = a % b;
            a = b;
            b = rest;
        }
        return a;
    }

    /** What texts have told: the people, whose each second is by deed, and the clouds. */
    private static final class Told {
        private final int[] kinds = new int[PEOPLE];
        private final int[] paces = new int[PEOPLE];
        private final int[] stayings = new int[PEOPLE];
        private final int[] rents = new int[PEOPLE];
        private final long[] deeds = new long[PEOPLE];
        private int people;
        private long clouds;

        Told() {
            people = 0;
            clouds = 0;
        }

        void copyFrom(Told other) {
            for (int p = 0; p < PEOPLE; p++) {
                kinds[p] = other.kinds[p];
                paces[p] = other.paces[p];
                stayings[p] = other.stayings[p];
                rents[p] = other.rents[p];
                deeds[p] = other.deeds[p];
            }
            people = other.people;
            clouds = other.clouds;
        }

        void reset() {
            for (int p = 0; p < PEOPLE; p++) {
                deeds[p] = 0;
            }
            people = 0;
            clouds = 0;
        }

        boolean hasRoom() {
            return people < PEOPLE;
        }

        void add(int kind, int pace, int staying, int rent) {
            if (people < 0 || people >= PEOPLE) {
                return;
            }
            kinds[people] = kind;
            paces[people] = pace;
            stayings[people] = staying;
            rents[people] = rent;
            people++;
        }

        void deed(int who, long seconds) {
            for (int p = 0; p < PEOPLE; p++) {
                deeds[p] = p == who ? deeds[p] | seconds : deeds[p] & ~seconds;
            }
        }

        boolean knows(int p) {
            return p >= 0 && p < people && p < PEOPLE;
        }

        int everybody() {
            return (1 << people) - 1;
        }

        int kindOf(int p) {
            return p >= 0 && p < PEOPLE ? kinds[p] : NONE;
        }

        int paceOf(int p) {
            return p >= 0 && p < PEOPLE ? paces[p] : 0;
        }

        int stayOf(int p) {
            return p >= 0 && p < PEOPLE ? stayings[p] : 0;
        }

        int rentOf(int p) {
            return p >= 0 && p < PEOPLE ? rents[p] : 0;
        }

        long deedOf(int p) {
            return p >= 0 && p < PEOPLE ? deeds[p] : 0;
        }

        int walkOf(int p) {
            if (p < 0 || p >= PEOPLE) {
                return 0;
            }
            return kinds[p] == GUIDE && paces[p] > 1 ? paces[p] - 1 : paces[p];
        }

        /** What a second of his costs another one. */
        int tollOf(int p) {
            if (p < 0 || p >= PEOPLE) {
                return 0;
            }
            return kinds[p] == BANK ? 2 * rents[p] : rents[p];
        }
    }

    /** How things stand now: who started when, whose seconds are, ropes and the clock. */
    private static final class Day {
        private final int[] starts = new int[PEOPLE];
        private final long[] lands = new long[PEOPLE];
        private int ropes;
        private int clockOn;

        Day() {
            for (int p = 0; p < PEOPLE; p++) {
                starts[p] = NONE;
            }
            ropes = 0;
            clockOn = 0;
        }

        void beginAs(Told told) {
            for (int p = 0; p < PEOPLE; p++) {
                starts[p] = NONE;
                lands[p] = told.deedOf(p);
            }
            ropes = 0;
            clockOn = 0;
        }

        int startOf(int p) {
            return p >= 0 && p < PEOPLE ? starts[p] : NONE;
        }

        void setStart(int p, int second) {
            if (p >= 0 && p < PEOPLE) {
                starts[p] = second;
            }
        }

        int whoGo() {
            int who = 0;
            for (int p = 0; p < PEOPLE; p++) {
                if (starts[p] != NONE) {
                    who |= 1 << p;
                }
            }
            return who;
        }

        boolean isRoped(int p) {
            return (ropes & 1 << p) != 0;
        }

        void setRope(int p, boolean on) {
            ropes = on ? ropes | 1 << p : ropes & ~(1 << p);
        }

        long landOf(int p) {
            return p >= 0 && p < PEOPLE ? lands[p] : 0;
        }

        long landOfAll() {
            long all = 0;
            for (int p = 0; p < PEOPLE; p++) {
                all |= lands[p];
            }
            return all;
        }

        int ownerOf(int second) {
            for (int p = 0; p < PEOPLE; p++) {
                if ((lands[p] & 1L << second) != 0) {
                    return p;
                }
            }
            return NONE;
        }

        /** The seconds are who's then; nobody's, if who is NONE. */
        void give(long seconds, int who) {
            for (int p = 0; p < PEOPLE; p++) {
                lands[p] = p == who ? lands[p] | seconds : lands[p] & ~seconds;
            }
        }
    }

    /** Copies of days in numbered places; one flat row of each sort, so that none is null. */
    private static final class Shelf {
        private final int places;
        private final int[] starts;
        private final long[] lands;
        private final int[] ropes;
        private final int[] clocksOn;

        Shelf(int size) {
            places = Math.max(size, 0);
            starts = new int[places * PEOPLE];
            lands = new long[places * PEOPLE];
            ropes = new int[places];
            clocksOn = new int[places];
        }

        void put(int place, Day day) {
            if (place < 0 || place >= places) {
                return;
            }
            int from = place * PEOPLE;
            for (int p = 0; p < PEOPLE; p++) {
                starts[from + p] = day.starts[p];
                lands[from + p] = day.lands[p];
            }
            ropes[place] = day.ropes;
            clocksOn[place] = day.clockOn;
        }

        void fetch(int place, Day day) {
            if (place < 0 || place >= places) {
                return;
            }
            int from = place * PEOPLE;
            for (int p = 0; p < PEOPLE; p++) {
                day.starts[p] = starts[from + p];
                day.lands[p] = lands[from + p];
            }
            day.ropes = ropes[place];
            day.clockOn = clocksOn[place];
        }
    }

    /** The days as they were ahead of the latest deeds, the oldest written over by the newest. */
    private static final class Past {
        private final Shelf shelf = new Shelf(UNDOS);
        private int next;
        private int held;

        Past() {
            next = 0;
            held = 0;
        }

        void record(Day day) {
            shelf.put(next, day);
            next = (next + 1) % UNDOS;
            held = Math.min(held + 1, UNDOS);
        }

        boolean takeBack(Day day) {
            if (held == 0) {
                return false;
            }
            next = (next + UNDOS - 1) % UNDOS;
            held--;
            shelf.fetch(next, day);
            return true;
        }

        void empty() {
            held = 0;
        }

        int size() {
            return held;
        }
    }

    /** Who was seen to be fined how much. */
    private static final class Sightings {
        private final int[] who = new int[SIGHTINGS];
        private final int[] fines = new int[SIGHTINGS];
        private int held;

        Sightings() {
            held = 0;
        }

        boolean add(int person, int fine) {
            if (held < 0 || held >= SIGHTINGS) {
                return false;
            }
            who[held] = person;
            fines[held] = fine;
            held++;
            return true;
        }

        void empty() {
            held = 0;
        }

        int size() {
            return held;
        }

        boolean fit(Ledger ledger, int clockOn) {
            for (int i = 0; i < held && i < SIGHTINGS; i++) {
                if (ledger.fine(who[i], clockOn) != fines[i]) {
                    return false;
                }
            }
            return true;
        }
    }

    /** Who stands when and what it costs him, as things are told and done. */
    private static final class Ledger {
        private final Told told;
        private final Day day;
        /** By the bits of those who have gone: the least that the rest of a set is fined. */
        private final int[] leastBehind = new int[SETS];

        Ledger(Told told, Day day) {
            this.told = told;
            this.day = day;
        }

        /** The seconds in which one stands who starts so, the clock being set on so. */
        long stands(int p, int start, int clockOn) {
            if (start == NONE) {
                return 0;
            }
            int first = start + told.walkOf(p) + clockOn;
            return span(first, first + told.stayOf(p) - 1);
        }

        /** The seconds in which two of lesser numbers stand there. */
        private long crowdAheadOf(int p, int clockOn) {
            long one = 0;
            long two = 0;
            for (int q = 0; q < p && q < PEOPLE; q++) {
                long stood = stands(q, day.startOf(q), clockOn);
                two |= one & stood;
                one |= stood;
            }
            return two;
        }

        /** The seconds that can cost him anything at all, whoever has them. */
        private long costly(int p) {
            long open = ALL_SECONDS & ~told.clouds & ~day.landOf(p);
            return told.kindOf(p) == MOURNER ? open & BEFORE_50 : open;
        }

        private int costOf(int p, long stood) {
            long paid = stood & costly(p);
            int cost = 0;
            for (int q = 0; q < told.people; q++) {
                cost += Long.bitCount(paid & day.landOf(q)) * told.tollOf(q);
            }
            return cost;
        }

        long freeFor(int p) {
            long paid = 0;
            for (int q = 0; q < told.people; q++) {
                if (told.tollOf(q) > 0) {
                    paid |= day.landOf(q);
                }
            }
            return ALL_SECONDS & ~(paid & costly(p));
        }

        private int withRope(int p, int whole) {
            return day.isRoped(p) ? whole / 2 : whole;
        }

        /** His fine by the clock, as if he had no rope. */
        int wholeFine(int p, int clockOn) {
            long stood = stands(p, day.startOf(p), clockOn);
            return costOf(p, stood) + Long.bitCount(stood & crowdAheadOf(p, clockOn));
        }

        int fine(int p, int clockOn) {
            return withRope(p, wholeFine(p, clockOn));
        }

        /** His fine if he started so, all others going as they do. */
        int fineFrom(int p, int start) {
            long stood = stands(p, start, day.clockOn);
            long crowded = stood & crowdAheadOf(p, day.clockOn);
            return withRope(p, costOf(p, stood) + Long.bitCount(crowded));
        }

        int bestStart(int p) {
            int best = NONE;
            int least = 0;
            int whole = told.walkOf(p) + day.clockOn + told.stayOf(p) - 1;
            for (int start = 0; start + whole <= LAST_SECOND && start <= LAST_SECOND; start++) {
                int fine = fineFrom(p, start);
                if (best == NONE || fine < least) {
                    best = start;
                    least = fine;
                }
            }
            return best;
        }

        /** The start of whoever goes next behind these, the first one having started at a. */
        private int startBehind(int gone, int a) {
            int start = a;
            for (int p = 0; p < told.people; p++) {
                if ((gone & 1 << p) != 0) {
                    start += told.walkOf(p) + day.clockOn + told.stayOf(p);
                }
            }
            return start;
        }

        /** The fines of p, who goes at this start behind those gone, and of the rest; or NONE. */
        private int leastWithNext(int gone, int p, int start) {
            int then = gone | 1 << p;
            if (then < 0 || then >= SETS || leastBehind[then] == NONE) {
                return NONE;
            }
            // one behind another nobody is crowded: costs are all of the fine
            int fine = withRope(p, costOf(p, stands(p, start, day.clockOn)));
            return fine + leastBehind[then];
        }

        /** The least that a set is fined going up one behind another from a on; or NONE. */
        int leastInOrder(int set, int a) {
            for (int gone = SETS - 1; gone >= 0; gone--) {
                if ((gone & ~set) == 0) {
                    leastBehind[gone] = gone == set ? 0 : leastOfRest(set, gone, a);
                }
            }
            return leastBehind[0];
        }

        private int leastOfRest(int set, int gone, int a) {
            int start = startBehind(gone, a);
            if (start > LAST_SECOND) {
                return NONE;
            }
            int least = NONE;
            for (int p = 0; p < told.people; p++) {
                if ((set & ~gone & 1 << p) != 0) {
                    int sum = leastWithNext(gone, p, start);
                    if (sum != NONE && (least == NONE || sum < least)) {
                        least = sum;
                    }
                }
            }
            return least;
        }

        /** Who is at a place (from 1 on) of the first best row; leastInOrder() goes ahead of it. */
        int placeInOrder(int set, int a, int place) {
            int gone = 0;
            int who = NONE;
            for (int i = 0; i < place; i++) {
                who = nextInOrder(set, gone, a);
                if (who == NONE) {
                    return NONE;
                }
                gone |= 1 << who;
            }
            return who;
        }

        private int nextInOrder(int set, int gone, int a) {
            if (gone < 0 || gone >= SETS) {
                return NONE;
            }
            int start = startBehind(gone, a);
            for (int p = 0; p < told.people; p++) {
                boolean waits = (set & ~gone & 1 << p) != 0;
                if (waits && leastWithNext(gone, p, start) == leastBehind[gone]) {
                    return p;
                }
            }
            return NONE;
        }
    }

    /** The text: its letters, and reading it token by token to its first fault. */
    private static final class Text {
        private static final int BLANK = 32;
        private static final int DEED = 4;
        private static final int FOG = 5;
        private static final int LIFT = 6;
        private static final int TOP = 7;

        private static final int END = 0;
        private static final int WORD = 1;
        private static final int NUMBER = 2;
        private static final int SIGN = 3;

        private final int[] letters = new int[LETTERS];
        private int length;
        /** The token at hand lies from begin to ahead of end. */
        private int begin;
        private int end;
        private int sort;
        private int clauses;

        Text() {
            length = 0;
        }

        boolean add(int letter) {
            if (length < 0 || length >= LETTERS) {
                return false;
            }
            letters[length] = letter;
            length++;
            return true;
        }

        void empty() {
            length = 0;
        }

        int size() {
            return length;
        }

        int clausesRead() {
            return clauses;
        }

        /** Does the clauses on the draft up to the first fault: its place, or NONE. */
        int readInto(Told draft) {
            end = 0;
            clauses = 0;
            for (int i = 0; i < CLAUSES; i++) {
                if (!readClause(draft)) {
                    return begin;
                }
                clauses = i + 1;
                step();
                if (sort == END) {
                    return NONE;
                }
                if (letterAt(begin) != ';') {
                    return begin;
                }
            }
            // a ; stands behind the last clause there may be
            return begin;
        }

        private boolean readClause(Told draft) {
            step();
            int word = wordAtHand();
            switch (word) {
                case CLIMBER:
                case GUIDE:
                case MOURNER:
                case BANK:
                    return readPerson(draft, word);
                case DEED:
                case FOG:
                    return readSeconds(draft, word);
                case LIFT:
                    draft.clouds = 0;
                    return true;
                case TOP:
                    draft.reset();
                    return true;
                default:
                    return false;
            }
        }

        private boolean readPerson(Told draft, int kind) {
            if (!draft.hasRoom()) {
                return false;
            }
            int pace = readNumber(1, 20);
            int staying = pace == NONE ? NONE : readNumber(1, STAY_MOST);
            int rent = staying == NONE ? NONE : readNumber(0, 20);
            if (rent == NONE) {
                return false;
            }
            draft.add(kind, pace, staying, rent);
            return true;
        }

        private boolean readSeconds(Told draft, int word) {
            int who = word == DEED ? readNumber(0, draft.people - 1) : 0;
            int from = who == NONE ? NONE : readNumber(0, LAST_SECOND);
            int to = from == NONE ? NONE : readNumber(from, LAST_SECOND);
            if (to == NONE) {
                return false;
            }
            if (word == DEED) {
                draft.deed(who, span(from, to));
            } else {
                draft.clouds |= span(from, to);
            }
            return true;
        }

        /** The next token as a number of 1 or 2 digits within its bounds; NONE if it is not one. */
        private int readNumber(int least, int most) {
            step();
            if (sort != NUMBER || end - begin > 2) {
                return NONE;
            }
            int number = 0;
            for (int i = begin; i < end; i++) {
                number = number * 10 + letterAt(i) - '0';
            }
            return isWithin(number, least, most) ? number : NONE;
        }

        /** Goes on to the next token; at the end begin and end are the length. */
        private void step() {
            begin = end;
            while (begin < length && letterAt(begin) == BLANK) {
                begin++;
            }
            sort = sortOf(letterAt(begin));
            end = sort == END ? begin : begin + 1;
            boolean isRow = sort == WORD || sort == NUMBER;
            while (isRow && end < length && sortOf(letterAt(end)) == sort) {
                end++;
            }
        }

        private int letterAt(int place) {
            return place >= 0 && place < length && place < LETTERS ? letters[place] : NONE;
        }

        private static int sortOf(int letter) {
            if (letter == NONE) {
                return END;
            }
            if (letter >= 'a' && letter <= 'z') {
                return WORD;
            }
            return letter >= '0' && letter <= '9' ? NUMBER : SIGN;
        }

        /** The kind or the deed that the token at hand names; NONE if it names none. */
        private int wordAtHand() {
            if (isAtHand("climber")) {
                return CLIMBER;
            }
            if (isAtHand("guide")) {
                return GUIDE;
            }
            if (isAtHand("mourner")) {
                return MOURNER;
            }
            if (isAtHand("bank")) {
                return BANK;
            }
            if (isAtHand("deed")) {
                return DEED;
            }
            if (isAtHand("fog")) {
                return FOG;
            }
            if (isAtHand("clear")) {
                return LIFT;
            }
            return isAtHand("top") ? TOP : NONE;
        }

        private boolean isAtHand(String word) {
            if (end - begin != word.length()) {
                return false;
            }
            for (int i = 0; i < word.length(); i++) {
                if (letterAt(begin + i) != word.charAt(i)) {
                    return false;
                }
            }
            return true;
        }
    }
}
