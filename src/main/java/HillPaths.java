/**
 * Paths mended by hand: the document ../shared/DOC.md says what each call answers.
 *
 * All rows are made in the constructor and used again, so that no call makes an object.
 */
public final class HillPaths {
    public static final int BAD = -1000000001, NO = -1000000002, FULL = -1000000003, NONE = -1000000005,
            NOTHING = -1000000011, KIND = -1000000012, INDEX = -1000000013, SIZE = -1000000014;

    private static final int CAIRNS = 10;
    private static final int MOST_STRETCHES = 16, MOST_TRIPS = 12, MOST_TEXTS = 14, MOST_MENDS = 20;
    private static final int MOST_CHOSEN = 6, MOST_DONORS = 12, MOST_LOADS = 10, MOST_PEOPLE = 10;
    private static final int MOST_JOBS = 4, MOST_BEDS = 10, MOST_NUMBERS = 60;
    private static final int OWNERS = 4, COUNTERS = 4, HUTS = 5, MOST_PLACES = 24;
    private static final int LAST_YEAR = 200, MOST_RUN = 20, MOST_WORTH_YEARS = 30;
    private static final int MOST_TAPE = 96, FEED_BYTES = 12;

    private static final int PLAIN = 0, STEPS = 1, DRAINED = 2, PITCHED = 3, BOARDS = 4, KINDS = 5;
    private static final int ROCK = 0, PEAT = 2;
    private static final int FIRST_WIDTH = 10, WIDEST = 9999, MENDED_WIDTH = 12, BARE_ABOVE = 60;
    private static final int FIRST_RAIN = 5, MOST_RAIN = 20, MOST_BOOTS = 9999;
    private static final int MOST_PURSE = 999999999, MOST_GIFT = 99999, MOST_COINS = 999999, MOST_PRICE = 99999;

    /** Columns of the rows of trips, mends, donors, people and jobs. */
    private static final int TRIP_FROM = 0, TRIP_TO = 1, TRIP_BOOTS = 2;
    private static final int MEND_STRETCH = 0, MEND_KIND = 1, MEND_YEAR = 2, MEND_DONE = 3;
    private static final int DONOR_YEAR = 0, DONOR_COINS = 1;
    private static final int PERSON_SKILLS = 0, PERSON_WEEKENDS = 1, JOB_SKILL = 0, JOB_NEEDS = 1;

    private static final int LEAVE = 0, SHUT = 1, PRICE = 2, WASH = 3, KEYS = 4;
    private static final int WEEKENDS = 6, SKILLS = 4, FLIGHT_HOLDS = 100;
    private static final int MISSING = -1, FLOATS = 1, GAP = -1, MOST_NOTED = 30000;
    private static final int EMPTY = 0, A_STRETCH = 1, A_COUNTER = 2, COINS = 3;

    private final Hills now = new Hills();
    private final Hills image = new Hills();
    private final Hills trial = new Hills();
    private boolean kept = false;
    private final Walk walk = new Walk();
    private final Stretch likeness = new Stretch();
    private final Reader tape = new Reader();
    private final Text[] texts = new Text[MOST_TEXTS];
    private final int[] names = new int[3];
    private final int[] washes = new int[MOST_STRETCHES];
    private final Choice chooser = new Choice();
    private final Flights flights = new Flights();
    private final Roster planner = new Roster();
    private final Counter[] counters = new Counter[COUNTERS];
    private final Hut[] huts = new Hut[HUTS];
    private final int[] numbers = new int[MOST_NUMBERS];
    private int waiting = 0;

    public HillPaths() {
        for (int i = 0; i < MOST_TEXTS; i++) texts[i] = new Text();
        for (int i = 0; i < COUNTERS; i++) counters[i] = new Counter();
        for (int i = 0; i < HUTS; i++) huts[i] = new Hut();
    }

    // ---- paths

    public int stretch(int cairns, int length, int ground, int owner) {
        if (!areTwoCairns(cairns) || !within(length, 1, 99)) return BAD;
        if (!within(ground, 0, 99) || ground % 10 > PEAT || !within(owner, 0, OWNERS - 1)) return BAD;
        if (now.stretchCount >= MOST_STRETCHES) return FULL;
        int number = now.stretchCount;
        now.stretches[number].begin(cairns, length, ground, owner);
        now.stretchCount = number + 1;
        return number;
    }

    public int told(int stretch, int what) {
        if (!isStretch(stretch)) return BAD;
        Stretch s = now.stretches[stretch];
        switch (what) {
            case 0: return s.first;
            case 1: return s.second;
            case 2: return s.length;
            case 3: return s.slope;
            case 4: return s.soil;
            case 5: return s.width;
            case 6: return s.owner;
            case 7: return s.shut ? 1 : 0;
            case 8: return s.kind;
            case 9: return s.effort();
            case 10: return bootsNow(stretch);
            case 11: return s.wearAndBare(bootsNow(stretch), now.rainIn(now.year));
            case 12: return s.holds();
            default: return BAD;
        }
    }

    public int as(int stretch, int kind) {
        if (!isStretch(stretch) || !within(kind, 0, KINDS - 1)) return BAD;
        Stretch s = now.stretches[stretch];
        return s.isOf(kind) ? s.width : KIND;
    }

    public int set(int stretch, int what, int v) {
        if (!isStretch(stretch)) return BAD;
        Stretch s = now.stretches[stretch];
        if (what == 5 && within(v, 1, WIDEST)) {
            int was = s.width;
            s.width = v;
            return was;
        }
        if (what == 7 && within(v, 0, 1)) {
            int was = s.shut ? 1 : 0;
            s.shut = v == 1;
            return was;
        }
        return BAD;
    }

    public int trip(int cairns, int boots) {
        if (!areTwoCairns(cairns) || !within(boots, 0, MOST_BOOTS)) return BAD;
        return now.trips.add(cairns / 10, cairns % 10, boots);
    }

    public int boots(int trip, int n) {
        if (!now.trips.has(trip) || !within(n, 0, MOST_BOOTS)) return BAD;
        return now.trips.put(trip, TRIP_BOOTS, n);
    }

    public int way(int trip, int what) {
        if (!now.trips.has(trip) || what < 0) return BAD;
        walk.weigh(now, NONE);
        if (!walk.find(now, now.trips.at(trip, TRIP_FROM), now.trips.at(trip, TRIP_TO))) return NONE;
        if (what == 0) return walk.effort;
        if (what == 1) return walk.steps;
        return what - 2 < walk.steps ? walk.path[what - 2] : NONE;
    }

    public int without(int stretch, int shut) {
        if (!isStretch(stretch) || !isStretch(shut)) return BAD;
        walk.tread(now, shut);
        return walk.boots[stretch];
    }

    public int rain(int year, int v) {
        if (!within(year, 0, LAST_YEAR) || !within(v, 0, MOST_RAIN)) return BAD;
        int was = now.rain[year];
        now.rain[year] = v;
        return was;
    }

    public int run(int n) {
        if (!within(n, 1, MOST_RUN)) return BAD;
        if (now.year + n > LAST_YEAR) return FULL;
        for (int i = 0; i < n; i++) now.passYear(walk);
        return now.year;
    }

    public int lost(int n) {
        if (!within(n, 1, MOST_RUN)) return BAD;
        if (now.year + n > LAST_YEAR) return FULL;
        trial.become(now);
        for (int i = 0; i < n; i++) trial.passYear(walk);
        return trial.widths() - now.widths();
    }

    // ---- texts

    public int feed(int a, int b, int c) {
        if (tape.length + FEED_BYTES > MOST_TAPE) return FULL;
        tape.take(a);
        tape.take(b);
        tape.take(c);
        return tape.length;
    }

    public int trim(int n) {
        if (!within(n, 0, tape.length)) return BAD;
        tape.length = n;
        return n;
    }

    public int text(int owner, int year) {
        boolean good = within(owner, 0, OWNERS - 1) && within(year, 0, LAST_YEAR);
        int fault = good ? tape.readText() : MISSING;
        tape.length = 0;
        if (!good) return BAD;
        if (fault >= 0) return -100 - fault;
        if (now.textCount >= MOST_TEXTS) return FULL;
        // An image never counts more texts than there are, so this place is none of its own.
        int number = now.textCount;
        texts[number].begin(owner, year, tape);
        now.textCount = number + 1;
        return number;
    }

    public int of(int text, int what) {
        if (!within(text, 0, now.textCount - 1)) return BAD;
        Text t = texts[text];
        switch (what) {
            case 0: return t.key;
            case 1: return t.owner;
            case 2: return t.year;
            case 3: return t.operands;
            default: return BAD;
        }
    }

    public int why(int owner, int key) {
        if (!within(owner, 0, OWNERS - 1) || !within(key, 0, KEYS - 1)) return BAD;
        return textThatCounts(owner, key);
    }

    public int rule(int stretch, int key, int kind) {
        if (!isStretch(stretch) || !within(key, 0, KEYS - 1)) return BAD;
        if ((key == LEAVE || key == PRICE) && !within(kind, 0, KINDS - 1)) return BAD;
        if (key == SHUT) walk.tread(now, NONE);
        return ruled(stretch, key, kind);
    }

    public int closing() {
        walk.tread(now, NONE);
        for (int i = 0; i < now.stretchCount; i++) now.stretches[i].shut = ruled(i, SHUT, PLAIN) != 0;
        return now.shutCount();
    }

    public int washed(int i) {
        if (i < 0) return BAD;
        for (int s = 0; s < now.stretchCount; s++) washes[s] = ruled(s, WASH, PLAIN);
        for (int s = 0; s < now.stretchCount; s++) {
            if (washedAheadOf(s) == i) return s;
        }
        return NONE;
    }

    // ---- mends

    public int mend(int stretch, int kind, int year) {
        if (!isStretch(stretch) || !within(kind, STEPS, BOARDS) || !within(year, now.year, LAST_YEAR)) return BAD;
        if (now.mends.isFull()) return FULL;
        if (ruled(stretch, LEAVE, kind) == 0 || now.hasMendWaiting(stretch)) return NO;
        int price = ruled(stretch, PRICE, kind);
        if (now.purse < price) return NO;
        now.purse -= price;
        return now.mends.add(stretch, kind, year);
    }

    public int mendTold(int mend, int what) {
        if (!now.mends.has(mend) || !within(what, MEND_STRETCH, MEND_DONE)) return BAD;
        return now.mends.at(mend, what);
    }

    public int worth(int stretch, int kind, int n) {
        if (!isStretch(stretch) || !within(kind, STEPS, BOARDS) || !within(n, 1, MOST_WORTH_YEARS)) return BAD;
        walk.tread(now, NONE);
        return widthBehind(stretch, PLAIN, n) - widthBehind(stretch, kind, n);
    }

    public int choose(int stretch) {
        if (!isStretch(stretch)) return BAD;
        for (int i = 0; i < now.chosen.many; i++) {
            if (now.chosen.at(i, 0) == stretch) return NO;
        }
        if (now.chosen.isFull()) return FULL;
        return now.chosen.add(stretch, 0, 0) + 1;
    }

    public int choice(int n, int c, int what) {
        if (!within(n, 1, MOST_WORTH_YEARS) || !within(c, 0, MOST_COINS)) return BAD;
        if (!within(what, 0, 1 + now.chosen.many)) return BAD;
        offerAll(n, c);
        chooser.findBest();
        if (what == 0) return chooser.bestWorth;
        if (what == 1) return chooser.bestPrice;
        return chooser.best[what - 2];
    }

    public int clear() {
        int were = now.chosen.many;
        now.chosen.many = 0;
        return were;
    }

    public int donor(int year, int coins) {
        if (!within(year, now.year, LAST_YEAR) || !within(coins, 1, MOST_GIFT)) return BAD;
        if (now.donors.isFull()) return FULL;
        return now.donors.add(year, coins, 0) + 1;
    }

    public int load(int weight) {
        if (!within(weight, 1, 99)) return BAD;
        return now.loads.add(weight, 0, 0);
    }

    public int flight(int load) {
        if (load != -1 && !now.loads.has(load)) return BAD;
        flights.findFewest(now.loads);
        return load == -1 ? flights.limit : flights.flightOf[load];
    }

    // ---- people

    public int person(int skills, int weekends) {
        if (!within(skills, 0, (1 << SKILLS) - 1) || !within(weekends, 0, (1 << WEEKENDS) - 1)) return BAD;
        return now.people.add(skills, weekends, 0);
    }

    public int job(int skill, int needs) {
        if (!within(skill, 0, SKILLS - 1) || !within(needs, 1, 60)) return BAD;
        return now.jobs.add(skill, needs, 0);
    }

    public int beds(int n) {
        if (!within(n, 0, MOST_BEDS)) return BAD;
        int were = now.beds;
        now.beds = n;
        return were;
    }

    public int roster(int what) {
        if (!within(what, -2, WEEKENDS - 1)) return BAD;
        planner.findBest(now);
        if (what == -2) return planner.bestMet;
        if (what == -1) return planner.bestDays;
        return planner.best[what];
    }

    // ---- counters, huts

    public int counter(int counter, int sort, int n) {
        if (!isCounter(counter) || !within(sort, MISSING, FLOATS)) return BAD;
        if (sort == MISSING) {
            counters[counter].begin(MISSING, 0);
            return 0;
        }
        if (n > MOST_PLACES) return BAD;
        if (n < 0) return SIZE;
        counters[counter].begin(sort, n);
        return n;
    }

    public int note(int counter, int place, int v) {
        if (!isCounter(counter)) return BAD;
        Counter row = counters[counter];
        if (row.sort == MISSING) return NOTHING;
        if (!within(place, 0, row.size - 1)) return INDEX;
        if (v != NONE && !within(v, 0, MOST_NOTED)) return BAD;
        row.places[place] = v == NONE ? GAP : v;
        return 1;
    }

    public int span(int counter, int place, int what) {
        if (!isCounter(counter) || !within(what, 0, 1)) return BAD;
        Counter row = counters[counter];
        if (row.sort == MISSING) return NOTHING;
        if (!within(place, 0, row.size - 1)) return INDEX;
        int edge = row.edgeOfSpan(place, what);
        return edge == GAP ? KIND : edge;
    }

    public int sum(int counter, int what) {
        if (!isCounter(counter) || !within(what, 0, 1)) return BAD;
        Counter row = counters[counter];
        if (row.sort == MISSING) return NOTHING;
        if (row.size > 0 && row.gapCount() == row.size) return KIND;
        int all = 0;
        for (int i = 0; i < row.size; i++) all += row.edgeOfSpan(i, what);
        return all;
    }

    public int copy(int from, int place, int to, int at, int many) {
        if (!isCounter(from) || !isCounter(to)) return BAD;
        Counter source = counters[from];
        Counter target = counters[to];
        if (source.sort == MISSING || target.sort == MISSING) return NOTHING;
        if (source.sort != target.sort) return KIND;
        if (!source.hasPlaces(place, many) || !target.hasPlaces(at, many)) return INDEX;
        System.arraycopy(source.places, place, target.places, at, many);
        return many;
    }

    public int lay(int hut, int thing, int k) {
        if (!isHut(hut) || !within(thing, EMPTY, COINS)) return BAD;
        if (thing == A_STRETCH && !isStretch(k)) return BAD;
        if (thing == A_COUNTER && !isCounter(k)) return BAD;
        if (thing == A_COUNTER && counters[k].sort == MISSING) return NOTHING;
        Hut h = huts[hut];
        int held = h.thing;
        h.thing = thing;
        if (thing == A_STRETCH) h.stretch.become(now.stretches[k]);
        if (thing == A_COUNTER) h.row.become(counters[k]);
        if (thing == COINS) h.coins = k;
        return held;
    }

    public int ask(int hut, int kind) {
        if (!isHut(hut) || !within(kind, 0, KINDS - 1)) return BAD;
        Hut h = huts[hut];
        if (h.thing == EMPTY) return NOTHING;
        if (h.thing != A_STRETCH || !h.stretch.isOf(kind)) return KIND;
        return h.stretch.effort();
    }

    public int gaps(int hut) {
        if (!isHut(hut)) return BAD;
        Hut h = huts[hut];
        if (h.thing == EMPTY) return NOTHING;
        return h.thing == A_COUNTER ? h.row.gapCount() : KIND;
    }

    public int parts(int hut, int n) {
        if (!isHut(hut)) return BAD;
        Hut h = huts[hut];
        if (h.thing == EMPTY) return NOTHING;
        if (h.thing != COINS) return KIND;
        if (n == 0) return NO;
        return h.coins / n;
    }

    // ---- rows, images

    public int tell(int v) {
        if (waiting >= MOST_NUMBERS) return FULL;
        numbers[waiting] = v;
        waiting++;
        return waiting;
    }

    public int check(int n) {
        int told = waiting;
        waiting = 0;
        if (!within(n, 1, MOST_RUN)) return BAD;
        if (!kept) return NO;
        trial.become(image);
        for (int i = 0; i < n; i++) {
            trial.passYear(walk);
            int place = 2 * i;
            if (place >= told || numbers[place] != trial.widths()) return 1 + place;
            if (place + 1 >= told || numbers[place + 1] != trial.purse) return 2 + place;
        }
        return told > 2 * n ? 1 + 2 * n : 0;
    }

    public int keep() {
        image.become(now);
        kept = true;
        return now.year;
    }

    public int back() {
        if (!kept) return NO;
        now.become(image);
        return now.year;
    }

    public int count(int what) {
        switch (what) {
            case 0: return now.stretchCount;
            case 1: return now.shutCount();
            case 2: return now.trips.many;
            case 3: return now.textCount;
            case 4: return now.mends.many;
            case 5: return now.mendsWaiting();
            case 6: return now.chosen.many;
            case 7: return now.donors.many;
            case 8: return now.loads.many;
            case 9: return now.people.many;
            case 10: return now.jobs.many;
            case 11: return now.purse;
            case 12: return waiting;
            case 13: return tape.length;
            case 14: return now.year;
            default: return BAD;
        }
    }

    // ---- what the calls share

    private static boolean within(int v, int least, int most) {
        return v >= least && v <= most;
    }

    private static boolean areTwoCairns(int cairns) {
        return within(cairns, 0, 99) && cairns / 10 != cairns % 10;
    }

    private boolean isStretch(int number) {
        return within(number, 0, now.stretchCount - 1);
    }

    private static boolean isCounter(int number) {
        return within(number, 0, COUNTERS - 1);
    }

    private static boolean isHut(int number) {
        return within(number, 0, HUTS - 1);
    }

    private int bootsNow(int stretch) {
        walk.tread(now, NONE);
        return walk.boots[stretch];
    }

    private int textThatCounts(int owner, int key) {
        int found = NONE;
        for (int i = 0; i < now.textCount; i++) {
            Text t = texts[i];
            if (t.owner != owner || t.key != key || t.year > now.year) continue;
            if (found == NONE || t.year >= texts[found].year) found = i;
        }
        return found;
    }

    /** Of shut, the boots are those that were trodden last: the caller sees to it that they are right. */
    private int ruled(int stretch, int key, int kind) {
        Stretch s = now.stretches[stretch];
        int text = textThatCounts(s.owner, key);
        if (text == NONE) return withoutText(s, key, kind);
        giveNames(stretch, key, kind);
        int given = texts[text].workOut(names);
        return key == PRICE ? Math.max(0, Math.min(MOST_PRICE, given)) : given;
    }

    private static int withoutText(Stretch s, int key, int kind) {
        switch (key) {
            case LEAVE: return 1;
            case PRICE: return 10 * s.length * (kind + 1);
            case WASH: return s.width - s.holds();
            default: return 0;
        }
    }

    /** The order is that of the letters in Reader.namesOf. */
    private void giveNames(int stretch, int key, int kind) {
        Stretch s = now.stretches[stretch];
        switch (key) {
            case LEAVE: fillNames(kind, s.width, s.slope); break;
            case SHUT: fillNames(s.width, walk.boots[stretch], now.year); break;
            case PRICE: fillNames(kind, s.length, s.soil); break;
            default: fillNames(s.holds(), s.width, now.meetingAt(s.first)); break;
        }
    }

    private void fillNames(int a, int b, int c) {
        names[0] = a;
        names[1] = b;
        names[2] = c;
    }

    private int washedAheadOf(int stretch) {
        int ahead = 0;
        for (int i = 0; i < now.stretchCount; i++) {
            if (washes[i] > washes[stretch] || (washes[i] == washes[stretch] && i < stretch)) ahead++;
        }
        return ahead;
    }

    /** PLAIN stands for no mend. The boots are those that were trodden last. */
    private int widthBehind(int stretch, int kind, int years) {
        likeness.become(now.stretches[stretch]);
        if (kind != PLAIN) likeness.mendTo(kind);
        int rain = now.rainIn(now.year);
        for (int i = 0; i < years; i++) likeness.grow(walk.boots[stretch], rain);
        return likeness.width;
    }

    private void offerAll(int years, int coins) {
        walk.tread(now, NONE);
        chooser.begin(now.chosen.many, coins);
        for (int i = 0; i < now.chosen.many; i++) {
            int stretch = now.chosen.at(i, 0);
            int unmended = widthBehind(stretch, PLAIN, years);
            for (int kind = STEPS; kind < KINDS; kind++) {
                if (ruled(stretch, LEAVE, kind) == 0) continue;
                chooser.offer(i, kind, unmended - widthBehind(stretch, kind, years), ruled(stretch, PRICE, kind));
            }
        }
    }

    // ---- classes inside

    /** A stretch, the likeness of one in a hut, or one that is tried out. */
    private static final class Stretch {
        int first, second, length, slope, soil, owner, width, kind;
        boolean shut;

        void begin(int cairns, int newLength, int ground, int newOwner) {
            first = cairns / 10;
            second = cairns % 10;
            length = newLength;
            slope = ground / 10;
            soil = ground % 10;
            owner = newOwner;
            width = FIRST_WIDTH;
            kind = PLAIN;
            shut = false;
        }

        void become(Stretch other) {
            first = other.first;
            second = other.second;
            length = other.length;
            slope = other.slope;
            soil = other.soil;
            owner = other.owner;
            width = other.width;
            kind = other.kind;
            shut = other.shut;
        }

        boolean isOf(int asked) {
            if (asked == PLAIN || asked == kind) return true;
            return (asked == STEPS && kind == PITCHED) || (asked == DRAINED && kind == BOARDS);
        }

        boolean meets(int cairn) {
            return first == cairn || second == cairn;
        }

        int effort() {
            int plain = length * (10 + slope) + width / 10;
            switch (kind) {
                case STEPS: return plain + 5 * slope;
                case DRAINED: return plain - length;
                case PITCHED: return plain + 5 * slope - 2 * length;
                case BOARDS: return (plain - length) / 2;
                default: return plain;
            }
        }

        int wear(int boots, int rain) {
            int softness = 1 << soil;
            int plain = boots * (slope + 1) * softness / 100 + rain * slope / 10;
            switch (kind) {
                case STEPS: return plain / 4;
                case DRAINED: return Math.max(0, plain - rain);
                case PITCHED: return plain / 4 / 2;
                case BOARDS: return Math.max(0, plain - rain) / 3 + 1;
                default: return plain;
            }
        }

        int wearAndBare(int boots, int rain) {
            int bare = width > BARE_ABOVE ? width / 30 : 0;
            return wear(boots, rain) + bare;
        }

        int holds() {
            int plain = 20 - 2 * slope + (soil == ROCK ? 5 : 0);
            switch (kind) {
                case STEPS:
                case PITCHED: return plain + 10;
                case DRAINED: return plain - wear(100, 5);
                case BOARDS: return plain - wear(100, 5) - length / 2;
                default: return plain;
            }
        }

        void grow(int boots, int rain) {
            width = Math.min(WIDEST, width + wearAndBare(boots, rain));
        }

        void mendTo(int newKind) {
            kind = newKind;
            width = Math.min(width, MENDED_WIDTH);
        }
    }

    /** A table of numbers that only grows, but for its being set back whole. */
    private static final class Rows {
        final int[] cells;
        final int most, across;
        int many = 0;

        Rows(int most, int across) {
            this.most = most;
            this.across = across;
            cells = new int[most * across];
        }

        boolean isFull() {
            return many >= most;
        }

        boolean has(int row) {
            return row >= 0 && row < many;
        }

        /** Columns behind the third are 0 at first. */
        int add(int a, int b, int c) {
            if (isFull()) return FULL;
            int row = many;
            many = row + 1;
            for (int i = 0; i < across; i++) put(row, i, i == 0 ? a : i == 1 ? b : i == 2 ? c : 0);
            return row;
        }

        int at(int row, int column) {
            return has(row) && within(column, 0, across - 1) ? cells[row * across + column] : 0;
        }

        int put(int row, int column, int v) {
            int was = at(row, column);
            if (has(row) && within(column, 0, across - 1)) cells[row * across + column] = v;
            return was;
        }

        void become(Rows other) {
            many = Math.min(most, other.many);
            System.arraycopy(other.cells, 0, cells, 0, Math.min(cells.length, other.cells.length));
        }
    }

    /** All that an image keeps. */
    private static final class Hills {
        final Stretch[] stretches = new Stretch[MOST_STRETCHES];
        int stretchCount = 0;
        final Rows trips = new Rows(MOST_TRIPS, 3);
        final int[] rain = new int[LAST_YEAR + 1];
        int year = 0;
        int textCount = 0;
        final Rows mends = new Rows(MOST_MENDS, 4);
        int purse = 0;
        final Rows chosen = new Rows(MOST_CHOSEN, 1);
        final Rows donors = new Rows(MOST_DONORS, 2);
        final Rows loads = new Rows(MOST_LOADS, 1);
        final Rows people = new Rows(MOST_PEOPLE, 2);
        final Rows jobs = new Rows(MOST_JOBS, 2);
        int beds = MOST_BEDS;

        Hills() {
            for (int i = 0; i < MOST_STRETCHES; i++) stretches[i] = new Stretch();
            for (int i = 0; i <= LAST_YEAR; i++) rain[i] = FIRST_RAIN;
        }

        void become(Hills other) {
            for (int i = 0; i < other.stretchCount; i++) stretches[i].become(other.stretches[i]);
            stretchCount = other.stretchCount;
            trips.become(other.trips);
            System.arraycopy(other.rain, 0, rain, 0, LAST_YEAR + 1);
            year = other.year;
            textCount = other.textCount;
            mends.become(other.mends);
            purse = other.purse;
            chosen.become(other.chosen);
            donors.become(other.donors);
            loads.become(other.loads);
            people.become(other.people);
            jobs.become(other.jobs);
            beds = other.beds;
        }

        int rainIn(int asked) {
            return asked >= 0 && asked <= LAST_YEAR ? rain[asked] : FIRST_RAIN;
        }

        int widths() {
            int all = 0;
            for (int i = 0; i < stretchCount; i++) all += stretches[i].width;
            return all;
        }

        int shutCount() {
            int all = 0;
            for (int i = 0; i < stretchCount; i++) {
                if (stretches[i].shut) all++;
            }
            return all;
        }

        int meetingAt(int cairn) {
            int all = 0;
            for (int i = 0; i < stretchCount; i++) {
                if (stretches[i].meets(cairn)) all++;
            }
            return all;
        }

        int mendsWaiting() {
            int all = 0;
            for (int i = 0; i < mends.many; i++) all += 1 - mends.at(i, MEND_DONE);
            return all;
        }

        boolean hasMendWaiting(int stretch) {
            for (int i = 0; i < mends.many; i++) {
                if (mends.at(i, MEND_STRETCH) == stretch && mends.at(i, MEND_DONE) == 0) return true;
            }
            return false;
        }

        void passYear(Walk walk) {
            walk.tread(this, NONE);
            int wet = rainIn(year);
            for (int i = 0; i < stretchCount; i++) stretches[i].grow(walk.boots[i], wet);
            doMendsDue();
            takeGiftsDue();
            year++;
        }

        private void doMendsDue() {
            for (int i = 0; i < mends.many; i++) {
                if (mends.at(i, MEND_DONE) != 0 || mends.at(i, MEND_YEAR) != year) continue;
                int stretch = mends.at(i, MEND_STRETCH);
                if (stretch >= 0 && stretch < stretchCount) stretches[stretch].mendTo(mends.at(i, MEND_KIND));
                mends.put(i, MEND_DONE, 1);
            }
        }

        private void takeGiftsDue() {
            for (int i = 0; i < donors.many; i++) {
                if (donors.at(i, DONOR_YEAR) == year) purse = Math.min(MOST_PURSE, purse + donors.at(i, DONOR_COINS));
            }
        }
    }

    /**
     * Finds ways. Effort and number of stretches are one weight, effort times 16 and 1: no way has
     * more than 9 stretches, so the lesser weight is the lesser effort, or the fewer stretches of like ones.
     */
    private static final class Walk {
        private static final int PER_EFFORT = 16, FAR = 1 << 29;

        final int[] weights = new int[MOST_STRETCHES];
        final int[] toGo = new int[CAIRNS];
        final int[] path = new int[CAIRNS];
        final int[] boots = new int[MOST_STRETCHES];
        int steps = 0;
        int effort = 0;

        /** A weight of 0: nobody goes there. */
        void weigh(Hills h, int shutToo) {
            for (int i = 0; i < h.stretchCount; i++) {
                Stretch s = h.stretches[i];
                weights[i] = s.shut || i == shutToo ? 0 : s.effort() * PER_EFFORT + 1;
            }
        }

        /** All trips of a year: behind it boots are those of each stretch. */
        void tread(Hills h, int shutToo) {
            weigh(h, shutToo);
            for (int i = 0; i < MOST_STRETCHES; i++) boots[i] = 0;
            for (int t = 0; t < h.trips.many; t++) {
                int walkers = h.trips.at(t, TRIP_BOOTS);
                if (walkers == 0 || !find(h, h.trips.at(t, TRIP_FROM), h.trips.at(t, TRIP_TO))) continue;
                for (int i = 0; i < steps; i++) boots[path[i]] += walkers;
            }
        }

        /** Weights are above 0, so a way of least weight has no cairn twice. */
        boolean find(Hills h, int from, int to) {
            steps = 0;
            effort = 0;
            measure(h, to);
            if (toGo[from] >= FAR) return false;
            effort = toGo[from] / PER_EFFORT;
            int at = from;
            for (int i = 0; i < CAIRNS && at != to; i++) {
                int next = firstOnward(h, at);
                if (next == NONE) return false;
                path[i] = next;
                steps = i + 1;
                at = otherEnd(h.stretches[next], at);
            }
            return at == to;
        }

        private void measure(Hills h, int to) {
            for (int i = 0; i < CAIRNS; i++) toGo[i] = FAR;
            toGo[to] = 0;
            boolean nearer = true;
            for (int round = 0; round < CAIRNS && nearer; round++) {
                nearer = false;
                for (int i = 0; i < h.stretchCount; i++) {
                    if (weights[i] > 0 && bringNearer(h.stretches[i], weights[i])) nearer = true;
                }
            }
        }

        private boolean bringNearer(Stretch s, int weight) {
            if (toGo[s.second] + weight < toGo[s.first]) {
                toGo[s.first] = toGo[s.second] + weight;
                return true;
            }
            if (toGo[s.first] + weight < toGo[s.second]) {
                toGo[s.second] = toGo[s.first] + weight;
                return true;
            }
            return false;
        }

        private int firstOnward(Hills h, int at) {
            for (int i = 0; i < h.stretchCount; i++) {
                Stretch s = h.stretches[i];
                if (weights[i] > 0 && s.meets(at) && toGo[otherEnd(s, at)] + weights[i] == toGo[at]) return i;
            }
            return NONE;
        }

        private static int otherEnd(Stretch s, int at) {
            return s.first == at ? s.second : s.first;
        }
    }

    /** A text that was read: its E as a row of acts, the parts of each ahead of it. */
    private static final class Text {
        /** Below FIRST_NAME an act is a number; then come the three names, then the signs. */
        private static final int FIRST_NAME = 10000, FIRST_SIGN = 20000;

        int owner, year, key, operands, length;
        final int[] acts = new int[MOST_TAPE];
        final int[] held = new int[MOST_TAPE];

        void begin(int newOwner, int newYear, Reader reader) {
            owner = newOwner;
            year = newYear;
            key = reader.key;
            operands = reader.operands;
            length = reader.actCount;
            System.arraycopy(reader.acts, 0, acts, 0, MOST_TAPE);
        }

        int workOut(int[] names) {
            int height = 0;
            for (int i = 0; i < length; i++) {
                int act = acts[i];
                if (act < FIRST_SIGN) {
                    if (height >= MOST_TAPE) return 0;
                    held[height] = act < FIRST_NAME ? act : names[Math.min(2, act - FIRST_NAME)];
                    height++;
                } else if (act == FIRST_SIGN + '!') {
                    if (height < 1) return 0;
                    held[height - 1] = held[height - 1] == 0 ? 1 : 0;
                } else {
                    if (height < 2) return 0;
                    height--;
                    held[height - 1] = join(act - FIRST_SIGN, held[height - 1], held[height]);
                }
            }
            return height > 0 ? held[height - 1] : 0;
        }

        private static int join(int sign, int a, int b) {
            switch (sign) {
                case '|': return a != 0 || b != 0 ? 1 : 0;
                case '&': return a != 0 && b != 0 ? 1 : 0;
                case '<': return a < b ? 1 : 0;
                case '=': return a == b ? 1 : 0;
                case '>': return a > b ? 1 : 0;
                case '+': return a + b;
                case '-': return a - b;
                case '*': return a * b;
                default: return b == 0 ? 0 : a / b;
            }
        }
    }

    /** The tape, and how a text is read from it. */
    private static final class Reader {
        /** What stands at the place, if it is no sign; signs are their own bytes. */
        private static final int END = 256, LETTERS = 257, DIGITS = 258, GLUED = 259;
        private static final int MOST_OPEN = 8, MOST_DIGITS = 4, BLANK = 32;

        final int[] bytes = new int[MOST_TAPE];
        int length = 0;
        final int[] acts = new int[MOST_TAPE];
        int actCount = 0, operands = 0, key = 0;
        private int sort = END, start = 0, end = 0;

        void take(int four) {
            for (int shift = 24; shift >= 0 && length < MOST_TAPE; shift -= 8) {
                bytes[length] = (four >>> shift) & 255;
                length++;
            }
        }

        /** The place of the fault, or -1. */
        int readText() {
            actCount = 0;
            operands = 0;
            sort = END;
            end = 0;
            step();
            key = keyHere();
            if (key < 0) return start;
            step();
            if (!readOr(0, 0) || sort != END) return start;
            return -1;
        }

        /** To the next word, sign or end. */
        private void step() {
            boolean behindWord = sort == LETTERS || sort == DIGITS;
            int wordEnd = end;
            start = end;
            while (start < length && bytes[start] == BLANK) start++;
            end = start;
            if (start >= length) {
                sort = END;
                return;
            }
            int first = sortOf(bytes[start]);
            end = start + 1;
            if (first == LETTERS || first == DIGITS) {
                while (end < length && sortOf(bytes[end]) == first) end++;
                sort = behindWord && start == wordEnd ? GLUED : first;
            } else {
                sort = first;
            }
        }

        private static int sortOf(int b) {
            if (b >= 'a' && b <= 'z') return LETTERS;
            if (b >= '0' && b <= '9') return DIGITS;
            return b;
        }

        private int keyHere() {
            for (int k = 0; k < KEYS; k++) {
                if (sort == LETTERS && isWord(wordOf(k))) return k;
            }
            return -1;
        }

        private boolean isWord(String word) {
            if (end - start != word.length()) return false;
            for (int i = 0; i < word.length(); i++) {
                if (bytes[start + i] != word.charAt(i)) return false;
            }
            return true;
        }

        private static String wordOf(int k) {
            switch (k) {
                case LEAVE: return "leave";
                case SHUT: return "shut";
                case PRICE: return "price";
                default: return "wash";
            }
        }

        private static String namesOf(int k) {
            switch (k) {
                case LEAVE: return "kws";
                case SHUT: return "wby";
                case PRICE: return "klo";
                default: return "hwd";
            }
        }

        /** No act is put but for a byte of the tape, so there is always room. */
        private void put(int act) {
            if (actCount >= MOST_TAPE) return;
            acts[actCount] = act;
            actCount++;
        }

        private boolean readOr(int opens, int nots) {
            if (!readAnd(opens, nots)) return false;
            for (int i = 0; i < MOST_TAPE && sort == '|'; i++) {
                step();
                if (!readAnd(opens, nots)) return false;
                put(Text.FIRST_SIGN + '|');
            }
            return true;
        }

        private boolean readAnd(int opens, int nots) {
            if (!readTest(opens, nots)) return false;
            for (int i = 0; i < MOST_TAPE && sort == '&'; i++) {
                step();
                if (!readTest(opens, nots)) return false;
                put(Text.FIRST_SIGN + '&');
            }
            return true;
        }

        private boolean readTest(int opens, int nots) {
            if (!readTerms(opens, nots)) return false;
            if (sort != '<' && sort != '=' && sort != '>') return true;
            int sign = sort;
            step();
            if (!readTerms(opens, nots)) return false;
            put(Text.FIRST_SIGN + sign);
            return true;
        }

        private boolean readTerms(int opens, int nots) {
            if (!readTerm(opens, nots)) return false;
            for (int i = 0; i < MOST_TAPE && (sort == '+' || sort == '-'); i++) {
                int sign = sort;
                step();
                if (!readTerm(opens, nots)) return false;
                put(Text.FIRST_SIGN + sign);
            }
            return true;
        }

        private boolean readTerm(int opens, int nots) {
            if (!readPart(opens, nots)) return false;
            for (int i = 0; i < MOST_TAPE && (sort == '*' || sort == '/'); i++) {
                int sign = sort;
                step();
                if (!readPart(opens, nots)) return false;
                put(Text.FIRST_SIGN + sign);
            }
            return true;
        }

        private boolean readPart(int opens, int nots) {
            if (sort == DIGITS) return readNumber();
            if (sort == LETTERS) return readName();
            if (sort == '!' && nots < MOST_OPEN) {
                step();
                if (!readPart(opens, nots + 1)) return false;
                put(Text.FIRST_SIGN + '!');
                return true;
            }
            if (sort == '(' && opens < MOST_OPEN) {
                step();
                if (!readOr(opens + 1, nots) || sort != ')') return false;
                step();
                return true;
            }
            return false;
        }

        private boolean readNumber() {
            if (end - start > MOST_DIGITS) return false;
            int v = 0;
            for (int i = start; i < end; i++) v = v * 10 + bytes[i] - '0';
            return readOperand(v);
        }

        private boolean readName() {
            if (end - start != 1) return false;
            int name = namesOf(key).indexOf((char) bytes[start]);
            return name >= 0 && readOperand(Text.FIRST_NAME + name);
        }

        private boolean readOperand(int act) {
            put(act);
            operands++;
            step();
            return true;
        }
    }

    /** The choice: tries the kinds of each told stretch, none first, so that the first of like ones is found first. */
    private static final class Choice {
        final int[] worths = new int[MOST_CHOSEN * KINDS];
        final int[] prices = new int[MOST_CHOSEN * KINDS];
        final boolean[] offered = new boolean[MOST_CHOSEN * KINDS];
        final int[] hope = new int[MOST_CHOSEN + 1];
        final int[] picked = new int[MOST_CHOSEN];
        final int[] best = new int[MOST_CHOSEN];
        int many, coins, bestWorth, bestPrice;

        void begin(int stretches, int c) {
            many = Math.min(MOST_CHOSEN, stretches);
            coins = c;
            for (int i = 0; i < MOST_CHOSEN * KINDS; i++) {
                worths[i] = 0;
                prices[i] = 0;
                offered[i] = i % KINDS == PLAIN;
            }
        }

        void offer(int i, int kind, int worth, int price) {
            int cell = i * KINDS + kind;
            if (cell < 0 || cell >= MOST_CHOSEN * KINDS) return;
            worths[cell] = worth;
            prices[cell] = price;
            offered[cell] = true;
        }

        void findBest() {
            hope[many] = 0;
            for (int i = many - 1; i >= 0; i--) hope[i] = hope[i + 1] + bestOf(i);
            bestWorth = -1;
            bestPrice = 0;
            pick(0, 0, 0);
        }

        private int bestOf(int i) {
            int most = 0;
            for (int kind = 0; kind < KINDS; kind++) {
                if (offered[i * KINDS + kind]) most = Math.max(most, worths[i * KINDS + kind]);
            }
            return most;
        }

        private void pick(int i, int worth, int price) {
            if (price > coins || worth + hope[i] < bestWorth) return;
            if (worth + hope[i] == bestWorth && price >= bestPrice) return;
            if (i >= many) {
                bestWorth = worth;
                bestPrice = price;
                for (int k = 0; k < many; k++) best[k] = picked[k];
                return;
            }
            for (int kind = 0; kind < KINDS; kind++) {
                int cell = i * KINDS + kind;
                if (!offered[cell]) continue;
                picked[i] = kind;
                pick(i + 1, worth + worths[cell], price + prices[cell]);
            }
        }
    }

    /** The flights: tries ever more of them, each load in the least flight first. */
    private static final class Flights {
        final int[] flightOf = new int[MOST_LOADS];
        final int[] carried = new int[MOST_LOADS];
        int limit;

        void findFewest(Rows loads) {
            int all = 0;
            for (int i = 0; i < loads.many; i++) all += loads.at(i, 0);
            int least = (all + FLIGHT_HOLDS - 1) / FLIGHT_HOLDS;
            for (int tried = least; tried <= loads.many; tried++) {
                limit = tried;
                for (int i = 0; i < MOST_LOADS; i++) carried[i] = 0;
                if (place(loads, 0)) return;
            }
        }

        private boolean place(Rows loads, int load) {
            if (load >= loads.many || load >= MOST_LOADS) return true;
            int weight = loads.at(load, 0);
            for (int f = 0; f < limit && f < MOST_LOADS; f++) {
                if (carried[f] + weight > FLIGHT_HOLDS || isLikeOneAhead(f)) continue;
                carried[f] += weight;
                flightOf[load] = f;
                if (place(loads, load + 1)) return true;
                carried[f] -= weight;
            }
            return false;
        }

        /** What failed in a flight that carries as much fails in this one, too. */
        private boolean isLikeOneAhead(int flight) {
            for (int f = 0; f < flight; f++) {
                if (carried[f] == carried[flight]) return true;
            }
            return false;
        }
    }

    /** The roster: tries the jobs of each weekend, none first. */
    private static final class Roster {
        /** Days that the gang gives to a job on a weekend; and on all weekends from one on. */
        final int[] gives = new int[WEEKENDS * MOST_JOBS];
        final int[] hope = new int[(WEEKENDS + 1) * MOST_JOBS];
        final int[] needs = new int[MOST_JOBS];
        final int[] has = new int[MOST_JOBS];
        final int[] picked = new int[WEEKENDS];
        final int[] best = new int[WEEKENDS];
        int jobs, bestMet, bestDays;

        void findBest(Hills h) {
            jobs = Math.min(MOST_JOBS, h.jobs.many);
            for (int j = 0; j < jobs; j++) {
                needs[j] = h.jobs.at(j, JOB_NEEDS);
                has[j] = 0;
                hope[WEEKENDS * MOST_JOBS + j] = 0;
                for (int w = WEEKENDS - 1; w >= 0; w--) {
                    int cell = w * MOST_JOBS + j;
                    gives[cell] = 2 * Math.min(h.beds, ableOn(h, w, h.jobs.at(j, JOB_SKILL)));
                    hope[cell] = gives[cell] + hope[cell + MOST_JOBS];
                }
            }
            bestMet = -1;
            bestDays = 0;
            pick(0);
        }

        private static int ableOn(Hills h, int weekend, int skill) {
            int able = 0;
            for (int i = 0; i < h.people.many; i++) {
                int skilled = (h.people.at(i, PERSON_SKILLS) >> skill) & 1;
                int free = (h.people.at(i, PERSON_WEEKENDS) >> weekend) & 1;
                able += skilled & free;
            }
            return able;
        }

        private void pick(int weekend) {
            if (!mayBeBetter(weekend)) return;
            if (weekend >= WEEKENDS) {
                takeAsBest();
                return;
            }
            picked[weekend] = NONE;
            pick(weekend + 1);
            for (int j = 0; j < jobs; j++) {
                int more = gives[weekend * MOST_JOBS + j];
                // Such a weekend does no more than none, which stands ahead of it.
                if (more == 0 || has[j] >= needs[j]) continue;
                picked[weekend] = j;
                has[j] += more;
                pick(weekend + 1);
                has[j] -= more;
            }
        }

        /** If each job had all the weekends that are left: behind the last this is what it has. */
        private boolean mayBeBetter(int weekend) {
            int met = 0;
            int days = 0;
            for (int j = 0; j < jobs; j++) {
                int most = has[j] + hope[weekend * MOST_JOBS + j];
                if (most >= needs[j]) met++;
                days += Math.min(most, needs[j]);
            }
            return met > bestMet || (met == bestMet && days > bestDays);
        }

        private void takeAsBest() {
            bestMet = 0;
            bestDays = 0;
            for (int j = 0; j < jobs; j++) {
                if (has[j] >= needs[j]) bestMet++;
                bestDays += Math.min(has[j], needs[j]);
            }
            for (int w = 0; w < WEEKENDS; w++) best[w] = picked[w];
        }
    }

    /** A row of places; floats are of whole numbers, so both sorts are held as ints. */
    private static final class Counter {
        int sort = MISSING;
        int size = 0;
        final int[] places = new int[MOST_PLACES];

        void begin(int newSort, int newSize) {
            sort = newSort;
            size = Math.max(0, Math.min(MOST_PLACES, newSize));
            for (int i = 0; i < MOST_PLACES; i++) places[i] = 0;
        }

        void become(Counter other) {
            sort = other.sort;
            size = other.size;
            System.arraycopy(other.places, 0, places, 0, MOST_PLACES);
        }

        boolean hasPlaces(int first, int many) {
            return many >= 0 && first >= 0 && first <= size && many <= size - first;
        }

        int gapCount() {
            int all = 0;
            for (int i = 0; i < size; i++) {
                if (places[i] == GAP) all++;
            }
            return all;
        }

        /** The least (0) or greatest (1) of a place; GAP if there is no number near it. */
        int edgeOfSpan(int place, int greatest) {
            int left = lastNumberUpTo(place);
            int right = firstNumberFrom(place);
            if (left == GAP) return right;
            if (right == GAP) return left;
            return greatest == 1 ? Math.max(left, right) : Math.min(left, right);
        }

        private int lastNumberUpTo(int place) {
            for (int i = Math.min(place, size - 1); i >= 0; i--) {
                if (places[i] != GAP) return places[i];
            }
            return GAP;
        }

        private int firstNumberFrom(int place) {
            for (int i = Math.max(0, place); i < size; i++) {
                if (places[i] != GAP) return places[i];
            }
            return GAP;
        }
    }

    /** What a hut holds is its own: later changes outside do not reach it. */
    private static final class Hut {
        int thing = EMPTY;
        final Stretch stretch = new Stretch();
        final Counter row = new Counter();
        int coins = 0;
    }
}
