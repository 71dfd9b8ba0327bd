/**
 * Which way round today: a town of streets, ways through them for the test, and learners;
 * who passes by which way at which hour, and what follows from that. The numbered promises
 * stand in ../shared/DOC.md.
 *
 * All rows are made in constructors and used again: no call makes an object.
 */
public final class WhichWayRound {
    private static final int NOBODY = -1;
    private static final int OTHER = -2;
    private static final int STATE = -3;
    private static final int BELOW = -4;
    private static final int ROOM = -6;
    private static final int NONE = -9;
    private static final long LONG_REFUSED = 4000000000000000000L;

    private static final int MOST_STREETS = 8;
    private static final int MOST_WAYS = 6;
    private static final int MOST_LEARNERS = 5;
    private static final int MOST_LETTERS = 96;
    private static final int MOST_IN_ROW = 12;
    private static final int MOST_BACK = 8;
    private static final int MOST_TESTS = 60;
    private static final int MOST_DAYS = 20;
    private static final int MOST_ODDS = 20;
    private static final int MOST_MINUTES_MADE = 72;
    private static final int GREATEST_LETTER = 255;
    private static final int GREATEST_DIGIT = 9;
    private static final int GREATEST_NUMBER = 99;
    private static final int LAST_DAY = 999;
    private static final int FIRST_HOUR = 8;
    private static final int FIRST_LIMIT = 11;
    private static final int HOURS = 24;

    private static final int HILL = 1;
    private static final int RING = 2;
    private static final int SCHOOL = 3;
    private static final int YARD = 4;
    private static final int CROWN = 5;
    private static final int KINDS = 6;

    private static final int SET_HOUR = 0;
    private static final int SET_LIMIT = 1;

    private static final int MOST_FAULTS_IN_STREET = 5;
    /** Above every limit, and above every sum that is compared with it. */
    private static final int NEVER = 1000;

    private final Town now;
    private final Town kept;
    private final Town trial;
    private final Past past;
    private final Letters letters;
    private final Told told;
    private final OfWays ofWays;
    private final OfOne ofOne;
    private final OfAll ofAll;
    private final int[] refusals;
    private boolean imageTaken;

    public WhichWayRound() {
        now = new Town();
        kept = new Town();
        trial = new Town();
        past = new Past();
        letters = new Letters();
        told = new Told(now);
        ofWays = new OfWays(now);
        ofOne = new OfOne(now);
        ofAll = new OfAll(now);
        refusals = new int[7];
        imageTaken = false;
    }

    // ---- letters

    public int feed(int letter) {
        if (letter < 0) {
            return refuse(BELOW);
        }
        if (letter > GREATEST_LETTER || letters.size >= MOST_LETTERS) {
            return refuse(ROOM);
        }
        return letters.add(letter);
    }

    public int town() {
        trial.copyFrom(now);
        int answer = letters.runOn(trial);
        letters.size = 0;
        if (answer >= 0) {
            now.copyFrom(trial);
            past.size = 0;
        }
        return answer;
    }

    // ---- what there is

    public int streetOf(int street, int what) {
        if (!now.hasStreet(street)) {
            return refuse(NOBODY);
        }
        switch (what) {
            case 0: return at(now.kindOf, street);
            case 1: return at(now.figureOf, street);
            case 2: return at(now.minutesOf, street);
            case 3: return now.hardOf(street, now.hour);
            case 4: return now.ballOf(street);
            default: return refuse(OTHER);
        }
    }

    public int learnerOf(int learner, int what) {
        if (!now.hasLearner(learner)) {
            return refuse(NOBODY);
        }
        switch (what) {
            case 0: return at(now.skillOf, learner);
            case 1: return at(now.knownOf, learner);
            default: return refuse(OTHER);
        }
    }

    public int street(int kind, int figure, int minutes) {
        return grown(now.addStreet(kind, figure, minutes));
    }

    public int way(int streets) {
        return grown(now.addWay(streets));
    }

    public int learner(int skill) {
        return grown(now.addLearner(skill));
    }

    // ---- what changes, and can be taken back

    public int tests(int learner, int way) {
        past.hold(now);
        return changed(now.test(learner, way));
    }

    public int knows(int learner, int street) {
        past.hold(now);
        return changed(now.turnKnown(learner, street));
    }

    public int sets(int what, int v) {
        past.hold(now);
        return changed(now.change(what, v));
    }

    public int day() {
        past.hold(now);
        return changed(now.nextDay());
    }

    public int back() {
        if (past.size < 1) {
            return refuse(STATE);
        }
        return past.takeBack(now);
    }

    // ---- a way, a learner on a way

    public int wayOf(int way, int hour, int what) {
        if (!now.hasWay(way) || !isHour(hour)) {
            return refuse(NOBODY);
        }
        int streets = at(now.streetsOf, way);
        switch (what) {
            case 0: return streets;
            case 1: return now.minutesOn(streets);
            case 2: return now.hardOn(streets, hour);
            case 3: return now.kindsOn(streets);
            default: return refuse(OTHER);
        }
    }

    public int faults(int learner, int way, int hour, int what) {
        if (!now.hasLearner(learner) || !now.hasWay(way) || !isHour(hour)) {
            return refuse(NOBODY);
        }
        switch (what) {
            case 0: return now.faultsOn(learner, way, hour);
            case 1: return now.passes(learner, way, hour) ? 1 : 0;
            case 2: return ofOne.worstStreet(learner, way, hour);
            default: return refuse(OTHER);
        }
    }

    public int bestHour(int learner, int way, int what) {
        if (!now.hasLearner(learner) || !now.hasWay(way)) {
            return refuse(NOBODY);
        }
        switch (what) {
            case 0: return ofOne.hourOfFewest(learner, way);
            case 1: return ofOne.hoursPassed(learner, way);
            default: return refuse(OTHER);
        }
    }

    public int easiest(int learner, int hour, int what) {
        if (!now.hasLearner(learner) || !isHour(hour)) {
            return refuse(NOBODY);
        }
        switch (what) {
            case 0: return ofOne.wayOfFewest(learner, hour);
            case 1: return now.waysPassed(at(now.skillOf, learner), at(now.knownOf, learner), hour);
            default: return refuse(OTHER);
        }
    }

    public int learn(int learner, int way, int hour) {
        boolean all = way == -1;
        if (!now.hasLearner(learner) || !all && !now.hasWay(way) || !isHour(hour)) {
            return refuse(NOBODY);
        }
        return ofOne.toLearn(learner, all ? now.allWays() : 1 << way, hour);
    }

    public long drawnWay(int learner, int hour, int part) {
        if (!now.hasLearner(learner) || !isHour(hour)) {
            return refuseLong(NOBODY);
        }
        if (!isEither(part)) {
            return refuseLong(OTHER);
        }
        int passed = now.waysPassed(at(now.skillOf, learner), at(now.knownOf, learner), hour);
        return partOf(Integer.bitCount(passed), now.ways, part);
    }

    // ---- ways beside one another

    public int alike(int one, int other) {
        if (!now.hasWay(one) || !now.hasWay(other) || one == other) {
            return refuse(NOBODY);
        }
        return ofWays.sharedBy(one, other);
    }

    public int mostAlike() {
        return ofWays.mostAlikeTwo();
    }

    public int fair(int hour, int k) {
        if (!isHour(hour)) {
            return refuse(NOBODY);
        }
        if (k < 0) {
            return refuse(BELOW);
        }
        if (k > MOST_WAYS) {
            return refuse(ROOM);
        }
        return k == 0 ? ofWays.apart(now.allWays(), hour) : ofWays.fairestSet(hour, k);
    }

    public int moped(int n, int what) {
        if (n < 0) {
            return refuse(BELOW);
        }
        if (n > MOST_TESTS) {
            return refuse(ROOM);
        }
        switch (what) {
            case 0: return ofWays.followed(n);
            case 1: return ofWays.testsToFollow();
            default: return refuse(OTHER);
        }
    }

    public int made(int kinds, int m, int v) {
        if (kinds < 0 || m < 1 || v < 0) {
            return refuse(BELOW);
        }
        if (kinds >= 1 << KINDS || m > MOST_MINUTES_MADE || v > GREATEST_NUMBER) {
            return refuse(ROOM);
        }
        return ofWays.nearestSet(kinds, m, v);
    }

    public int unlike() {
        return ofWays.mostUnlikeTwo();
    }

    // ---- the examiner, the queue, lessons, a ball

    public int strict(int way, int what) {
        if (!now.hasWay(way)) {
            return refuse(NOBODY);
        }
        if (what < 0 || what > 2) {
            return refuse(OTHER);
        }
        if (!told.tellsWhoPassed()) {
            return refuse(STATE);
        }
        switch (what) {
            case 0: return told.limitsSo(way);
            case 1: return told.leastLimitSo(way);
            default: return told.hoursSo(way);
        }
    }

    public int queue(int way, int i) {
        if (!now.hasWay(way)) {
            return refuse(NOBODY);
        }
        if (i < -1) {
            return refuse(BELOW);
        }
        return ofAll.queued(way, i);
    }

    public int lessons(int learner, int way, int hour) {
        if (!now.hasLearner(learner) || !now.hasWay(way) || !isHour(hour)) {
            return refuse(NOBODY);
        }
        return ofOne.lessonsToPass(learner, way, hour);
    }

    public long ball(int learner, int way, int t, int part) {
        if (!now.hasLearner(learner) || !now.hasWay(way)) {
            return refuseLong(NOBODY);
        }
        if (t < 2) {
            return refuseLong(BELOW);
        }
        if (t > MOST_ODDS) {
            return refuseLong(ROOM);
        }
        if (!isEither(part)) {
            return refuseLong(OTHER);
        }
        int streets = Integer.bitCount(at(now.streetsOf, way));
        return partOf(ofOne.chancesWithBalls(learner, way, t), power(t, streets), part);
    }

    // ---- streets in ways, learners in order, what would be wanted

    public int crowded(int what) {
        switch (what) {
            case 0: return ofWays.mostCrowded();
            case 1: return ofWays.waysThrough(ofWays.mostCrowded());
            case 2: return now.allStreets() & ~ofWays.followed(now.ways);
            default: return refuse(OTHER);
        }
    }

    public int rank(int way, int i) {
        if (!now.hasWay(way)) {
            return refuse(NOBODY);
        }
        if (i < 0) {
            return refuse(BELOW);
        }
        return ofAll.ranked(way, i);
    }

    public int skillWanted(int learner, int way, int hour) {
        if (!now.hasLearner(learner) || !now.hasWay(way) || !isHour(hour)) {
            return refuse(NOBODY);
        }
        return ofOne.leastSkill(learner, way, hour);
    }

    public int limitWanted() {
        return ofAll.leastLimit();
    }

    public int rush(int way, int what) {
        if (!now.hasWay(way)) {
            return refuse(NOBODY);
        }
        switch (what) {
            case 0: return ofAll.hourOfMost(way);
            case 1: return ofAll.passersAt(way, ofAll.hourOfMost(way));
            default: return refuse(OTHER);
        }
    }

    public int newcomer(int skill) {
        if (skill < 0) {
            return refuse(BELOW);
        }
        if (skill > GREATEST_DIGIT) {
            return refuse(ROOM);
        }
        return now.waysPassed(skill, 0, now.hour);
    }

    public int gain(int learner, int street) {
        boolean best = street == -1;
        if (!now.hasLearner(learner) || !best && !now.hasStreet(street)) {
            return refuse(NOBODY);
        }
        return best ? ofOne.bestLesson(learner) : ofOne.gained(learner, street);
    }

    public int career(int learner, int n) {
        if (!now.hasLearner(learner)) {
            return refuse(NOBODY);
        }
        if (n < 0) {
            return refuse(BELOW);
        }
        if (n > MOST_TESTS) {
            return refuse(ROOM);
        }
        return ofOne.passedInRow(learner, n);
    }

    public int toughest(int way) {
        if (!now.hasWay(way)) {
            return refuse(NOBODY);
        }
        return ofWays.hardestHour(way);
    }

    public int equal() {
        return ofAll.twosAlike();
    }

    public int longest(int what) {
        if (!isEither(what)) {
            return refuse(OTHER);
        }
        int way = ofWays.longestWay();
        if (what == 0 || way < 0) {
            return way;
        }
        return now.minutesOn(at(now.streetsOf, way));
    }

    // ---- the row, days by lot

    public int row(int v) {
        if (v < 0) {
            return refuse(BELOW);
        }
        if (v > GREATEST_NUMBER || told.size >= MOST_IN_ROW) {
            return refuse(ROOM);
        }
        return told.add(v);
    }

    public int judge(int learner) {
        if (!now.hasLearner(learner)) {
            return refuse(NOBODY);
        }
        int answer = told.firstNotSo(learner);
        told.size = 0;
        return answer;
    }

    public int clear() {
        int had = told.size;
        told.size = 0;
        return had;
    }

    public int lots(int n, int z, int what) {
        if (n < 1) {
            return refuse(BELOW);
        }
        if (n > MOST_DAYS) {
            return refuse(ROOM);
        }
        if (!isEither(what)) {
            return refuse(OTHER);
        }
        return ofAll.byLot(n, z, what);
    }

    // ---- the image, counts

    public int image() {
        kept.copyFrom(now);
        imageTaken = true;
        return now.day;
    }

    public int restore() {
        if (!imageTaken) {
            return refuse(STATE);
        }
        now.copyFrom(kept);
        past.size = 0;
        return now.day;
    }

    public int count(int what) {
        if (what >= 11 && what <= 16) {
            return at(refusals, what - 10);
        }
        switch (what) {
            case 0: return now.streets;
            case 1: return now.ways;
            case 2: return now.learners;
            case 3: return now.hour;
            case 4: return now.limit;
            case 5: return now.day;
            case 6: return ofAll.allKnown();
            case 7: return letters.size;
            case 8: return told.size;
            case 9: return past.size;
            default: return NONE;
        }
    }

    // ---- how calls answer

    private int refuse(int why) {
        store(refusals, -why, at(refusals, -why) + 1);
        return why;
    }

    private long refuseLong(int why) {
        return LONG_REFUSED - refuse(why);
    }

    /** A street, way or learner more leaves nothing that can be taken back. */
    private int grown(int answer) {
        if (answer < 0) {
            return refuse(answer);
        }
        past.size = 0;
        return answer;
    }

    private int changed(int answer) {
        if (answer < 0) {
            return refuse(answer);
        }
        past.keep();
        return answer;
    }

    // ---- small helps

    private static int at(int[] row, int i) {
        return row != null && i >= 0 && i < row.length ? row[i] : 0;
    }

    private static void store(int[] row, int i, int v) {
        if (row != null && i >= 0 && i < row.length) {
            row[i] = v;
        }
    }

    private static void copyRow(int[] from, int[] to, int many) {
        for (int i = 0; i < many; i++) {
            store(to, i, at(from, i));
        }
    }

    private static boolean has(int bits, int i) {
        return (bits >> i & 1) == 1;
    }

    private static boolean isHour(int hour) {
        return hour >= 0 && hour < HOURS;
    }

    private static boolean isEither(int what) {
        return what == 0 || what == 1;
    }

    private static int remainder(int v, int n) {
        return n < 1 ? 0 : v % n;
    }

    private static long power(int base, int times) {
        long all = 1;
        for (int i = 0; i < times; i++) {
            all *= base;
        }
        return all;
    }

    /** Of a fraction in lowest terms: part 0 above, 1 below the line; nothing of nothing is 0 over 1. */
    private static long partOf(long above, long below, int part) {
        long divisor = greatestDivisor(above, below);
        if (divisor < 1) {
            return part == 0 ? 0 : 1;
        }
        return (part == 0 ? above : below) / divisor;
    }

    private static long greatestDivisor(long a, long b) {
        long greater = a;
        long lesser = b;
        // Every two steps halve the greater: 200 are more than longs can need.
        for (int i = 0; i < 200 && lesser != 0; i++) {
            long rest = greater % lesser;
            greater = lesser;
            lesser = rest;
        }
        return greater;
    }

    /** All that there is of part I, with its rules. */
    private static final class Town {
        int streets;
        int ways;
        int learners;
        int hour;
        int limit;
        int day;
        final int[] kindOf;
        final int[] figureOf;
        final int[] minutesOf;
        final int[] streetsOf;
        final int[] skillOf;
        final int[] knownOf;

        Town() {
            streets = 0;
            ways = 0;
            learners = 0;
            hour = FIRST_HOUR;
            limit = FIRST_LIMIT;
            day = 0;
            kindOf = new int[MOST_STREETS];
            figureOf = new int[MOST_STREETS];
            minutesOf = new int[MOST_STREETS];
            streetsOf = new int[MOST_WAYS];
            skillOf = new int[MOST_LEARNERS];
            knownOf = new int[MOST_LEARNERS];
        }

        void copyFrom(Town other) {
            streets = other.streets;
            ways = other.ways;
            learners = other.learners;
            hour = other.hour;
            limit = other.limit;
            day = other.day;
            copyRow(other.kindOf, kindOf, MOST_STREETS);
            copyRow(other.figureOf, figureOf, MOST_STREETS);
            copyRow(other.minutesOf, minutesOf, MOST_STREETS);
            copyRow(other.streetsOf, streetsOf, MOST_WAYS);
            copyRow(other.skillOf, skillOf, MOST_LEARNERS);
            copyRow(other.knownOf, knownOf, MOST_LEARNERS);
        }

        boolean hasStreet(int i) {
            return i >= 0 && i < streets;
        }

        boolean hasWay(int i) {
            return i >= 0 && i < ways;
        }

        boolean hasLearner(int i) {
            return i >= 0 && i < learners;
        }

        int allStreets() {
            return (1 << streets) - 1;
        }

        int allWays() {
            return (1 << ways) - 1;
        }

        int addStreet(int kind, int figure, int minutes) {
            if (kind < 0 || kind >= KINDS) {
                return OTHER;
            }
            if (figure < 0 || minutes < 1) {
                return BELOW;
            }
            if (figure > GREATEST_DIGIT || minutes > GREATEST_DIGIT || streets >= MOST_STREETS) {
                return ROOM;
            }
            store(kindOf, streets, kind);
            store(figureOf, streets, figure);
            store(minutesOf, streets, minutes);
            streets++;
            return streets - 1;
        }

        int addWay(int bits) {
            if (bits < 1) {
                return BELOW;
            }
            if (bits > allStreets() || ways >= MOST_WAYS) {
                return ROOM;
            }
            store(streetsOf, ways, bits);
            ways++;
            return ways - 1;
        }

        int addLearner(int skill) {
            if (skill < 0) {
                return BELOW;
            }
            if (skill > GREATEST_DIGIT || learners >= MOST_LEARNERS) {
                return ROOM;
            }
            store(skillOf, learners, skill);
            store(knownOf, learners, 0);
            learners++;
            return learners - 1;
        }

        /** A test: 1 or 0 by what is known before; then all streets of the way are known. */
        int test(int learner, int way) {
            if (!hasLearner(learner) || !hasWay(way)) {
                return NOBODY;
            }
            int answer = passes(learner, way, hour) ? 1 : 0;
            store(knownOf, learner, at(knownOf, learner) | at(streetsOf, way));
            return answer;
        }

        int turnKnown(int learner, int street) {
            if (!hasLearner(learner) || !hasStreet(street)) {
                return NOBODY;
            }
            int known = at(knownOf, learner) ^ 1 << street;
            store(knownOf, learner, known);
            return has(known, street) ? 1 : 0;
        }

        int change(int what, int v) {
            if (!isEither(what)) {
                return OTHER;
            }
            if (v < 0) {
                return BELOW;
            }
            if (v > (what == SET_HOUR ? HOURS - 1 : GREATEST_NUMBER)) {
                return ROOM;
            }
            int before = what == SET_HOUR ? hour : limit;
            if (what == SET_HOUR) {
                hour = v;
            } else {
                limit = v;
            }
            return before;
        }

        int nextDay() {
            if (day >= LAST_DAY) {
                return ROOM;
            }
            day++;
            hour = FIRST_HOUR;
            for (int i = 0; i < learners; i++) {
                store(knownOf, i, withoutGreatest(at(knownOf, i)));
            }
            return day;
        }

        private static int withoutGreatest(int known) {
            for (int s = MOST_STREETS - 1; s >= 0; s--) {
                if (has(known, s)) {
                    return known ^ 1 << s;
                }
            }
            return known;
        }

        int hardOf(int street, int atHour) {
            int figure = at(figureOf, street);
            switch (at(kindOf, street)) {
                case HILL: return figure + 2;
                case RING: return figure + ringMore(atHour);
                case SCHOOL: return atHour == 8 || atHour == 15 ? 2 * (figure + 2) : figure + 2;
                case YARD: return figure / 2;
                case CROWN: return figure + ringMore(atHour) + 1;
                default: return figure;
            }
        }

        private static int ringMore(int atHour) {
            return atHour >= 15 && atHour <= 17 ? 3 : 1;
        }

        int ballOf(int street) {
            switch (at(kindOf, street)) {
                case RING: return 3;
                case SCHOOL: return 4;
                case YARD: return 0;
                case CROWN: return 3;
                default: return 1;
            }
        }

        int minutesOn(int bits) {
            int all = 0;
            for (int s = 0; s < streets; s++) {
                if (has(bits, s)) {
                    all += at(minutesOf, s);
                }
            }
            return all;
        }

        int hardOn(int bits, int atHour) {
            int all = 0;
            for (int s = 0; s < streets; s++) {
                if (has(bits, s)) {
                    all += hardOf(s, atHour);
                }
            }
            return all;
        }

        int kindsOn(int bits) {
            int all = 0;
            for (int s = 0; s < streets; s++) {
                if (has(bits, s)) {
                    all |= 1 << at(kindOf, s);
                }
            }
            return all;
        }

        static int faultsFor(int hard, int skill, boolean isKnown) {
            int less = Math.max(0, hard - skill);
            return isKnown ? less / 2 : less;
        }

        int faultsIn(int learner, int street, int atHour) {
            boolean isKnown = has(at(knownOf, learner), street);
            return faultsFor(hardOf(street, atHour), at(skillOf, learner), isKnown);
        }

        int faultsOn(int learner, int way, int atHour) {
            int bits = at(streetsOf, way);
            int all = 0;
            for (int s = 0; s < streets; s++) {
                if (has(bits, s)) {
                    all += faultsIn(learner, s, atHour);
                }
            }
            return all;
        }

        /** The least limit with which one passes, NEVER if a street forbids it; skill and known may be supposed ones. */
        int limitToPass(int way, int skill, int known, int atHour) {
            int bits = at(streetsOf, way);
            int all = 0;
            for (int s = 0; s < streets; s++) {
                if (has(bits, s)) {
                    int faults = faultsFor(hardOf(s, atHour), skill, has(known, s));
                    if (faults > MOST_FAULTS_IN_STREET) {
                        return NEVER;
                    }
                    all += faults;
                }
            }
            return all;
        }

        boolean passes(int learner, int way, int atHour) {
            return limitToPass(way, at(skillOf, learner), at(knownOf, learner), atHour) <= limit;
        }

        int waysPassed(int skill, int known, int atHour) {
            int passed = 0;
            for (int w = 0; w < ways; w++) {
                if (limitToPass(w, skill, known, atHour) <= limit) {
                    passed |= 1 << w;
                }
            }
            return passed;
        }
    }

    /** What tests, knows, sets and day changed: hours, limits, days and what was known, the latest 8 of them. */
    private static final class Past {
        private static final int HELD = 3 + MOST_LEARNERS;
        /** One more than can be taken back: what is held before a call is not kept yet. */
        private static final int PLACES = MOST_BACK + 1;

        int size;
        private int place;
        private final int[] held;

        Past() {
            size = 0;
            place = 0;
            held = new int[PLACES * HELD];
        }

        /** Holds the town as it is before a change, which may still be refused. */
        void hold(Town town) {
            int from = place * HELD;
            store(held, from, town.hour);
            store(held, from + 1, town.limit);
            store(held, from + 2, town.day);
            for (int i = 0; i < MOST_LEARNERS; i++) {
                store(held, from + 3 + i, at(town.knownOf, i));
            }
        }

        /** What was held last can be taken back. */
        void keep() {
            place = (place + 1) % PLACES;
            size = Math.min(size + 1, MOST_BACK);
        }

        int takeBack(Town town) {
            place = (place + PLACES - 1) % PLACES;
            size--;
            int from = place * HELD;
            town.hour = at(held, from);
            town.limit = at(held, from + 1);
            town.day = at(held, from + 2);
            for (int i = 0; i < MOST_LEARNERS; i++) {
                store(town.knownOf, i, at(held, from + 3 + i));
            }
            return size;
        }
    }

    /** A town told in letters. */
    private static final class Letters {
        private static final int NO_TOWN = -1000;
        private static final int NOT_AS_IT_MUST_BE = -2000;
        private static final int NO_FAULT = -1;

        int size;
        private final int[] signs;

        Letters() {
            size = 0;
            signs = new int[MOST_LETTERS];
        }

        int add(int letter) {
            store(signs, size, letter);
            size++;
            return size;
        }

        /** How many statements there are, all of them done to the town; or the fault, the town then half changed. */
        int runOn(Town town) {
            int wrong = firstWrongLetter();
            if (wrong != NO_FAULT) {
                return NO_TOWN - wrong;
            }
            int statements = 0;
            int start = 0;
            for (int i = 0; i < MOST_LETTERS && start < size; i++) {
                if (runStatement(town, start) < 0) {
                    return NOT_AS_IT_MUST_BE - start;
                }
                statements++;
                start += digitsBehind(at(signs, start)) + 2;
            }
            return statements;
        }

        private int firstWrongLetter() {
            boolean begins = true;
            int digitsLeft = 0;
            for (int i = 0; i < size; i++) {
                int sign = at(signs, i);
                if (begins) {
                    digitsLeft = digitsBehind(sign);
                    if (digitsLeft < 0) {
                        return i;
                    }
                    begins = false;
                } else if (digitsLeft > 0) {
                    if (sign < '0' || sign > '9') {
                        return i;
                    }
                    digitsLeft--;
                } else {
                    if (sign != ';') {
                        return i;
                    }
                    begins = true;
                }
            }
            return size > 0 && begins ? NO_FAULT : size;
        }

        /** How many digits a statement has behind its first letter; -1 if none begins so. */
        private static int digitsBehind(int sign) {
            switch (sign) {
                case 's':
                case 'w': return 3;
                case 'k':
                case 'h':
                case 't':
                case 'm': return 2;
                case 'l': return 1;
                case 'd': return 0;
                default: return -1;
            }
        }

        private int runStatement(Town town, int start) {
            int first = at(signs, start + 1) - '0';
            int second = at(signs, start + 2) - '0';
            int third = at(signs, start + 3) - '0';
            switch (at(signs, start)) {
                case 's': return town.addStreet(first, second, third);
                case 'w': return town.addWay(100 * first + 10 * second + third);
                case 'l': return town.addLearner(first);
                case 'k': return town.turnKnown(first, second);
                case 'h': return town.change(SET_HOUR, 10 * first + second);
                case 't': return town.test(first, second);
                case 'm': return town.change(SET_LIMIT, 10 * first + second);
                case 'd': return town.nextDay();
                default: return OTHER;
            }
        }
    }

    /** The row of numbers: who is told to have passed, or faults told street by street. */
    private static final class Told {
        private static final int PASSED = 1;
        private static final int NOT_TOLD = 2;

        int size;
        private final int[] numbers;
        private final Town town;

        Told(Town town) {
            this.town = town;
            size = 0;
            numbers = new int[MOST_IN_ROW];
        }

        int add(int v) {
            store(numbers, size, v);
            size++;
            return size;
        }

        boolean tellsWhoPassed() {
            if (size > town.learners) {
                return false;
            }
            for (int i = 0; i < size; i++) {
                if (at(numbers, i) > NOT_TOLD) {
                    return false;
                }
            }
            return true;
        }

        int leastLimitSo(int way) {
            return limitsSo(way) > 0 ? lowestLimit(way) : NONE;
        }

        /** Limits by which it is so stand in one run: from what the passed need to below what the others need. */
        int limitsSo(int way) {
            return Math.max(0, highestLimit(way) - lowestLimit(way) + 1);
        }

        private int lowestLimit(int way) {
            int lowest = 0;
            for (int i = 0; i < size; i++) {
                if (at(numbers, i) == PASSED) {
                    lowest = Math.max(lowest, limitOf(i, way, town.hour));
                }
            }
            return lowest;
        }

        private int highestLimit(int way) {
            int highest = GREATEST_NUMBER;
            for (int i = 0; i < size; i++) {
                if (at(numbers, i) != PASSED && at(numbers, i) != NOT_TOLD) {
                    highest = Math.min(highest, limitOf(i, way, town.hour) - 1);
                }
            }
            return highest;
        }

        private int limitOf(int learner, int way, int hour) {
            return town.limitToPass(way, at(town.skillOf, learner), at(town.knownOf, learner), hour);
        }

        int hoursSo(int way) {
            int hours = 0;
            for (int hour = 0; hour < HOURS; hour++) {
                if (isSoAt(way, hour)) {
                    hours |= 1 << hour;
                }
            }
            return hours;
        }

        private boolean isSoAt(int way, int hour) {
            for (int i = 0; i < size; i++) {
                int number = at(numbers, i);
                if (number != NOT_TOLD && number == PASSED != town.passes(i, way, hour)) {
                    return false;
                }
            }
            return true;
        }

        int firstNotSo(int learner) {
            for (int i = 0; i < size; i++) {
                if (!town.hasStreet(i) || town.faultsIn(learner, i, town.hour) != at(numbers, i)) {
                    return i;
                }
            }
            return NONE;
        }
    }

    /** What is asked of ways and streets alone. */
    private static final class OfWays {
        private final Town town;

        OfWays(Town town) {
            this.town = town;
        }

        int sharedBy(int one, int other) {
            return Integer.bitCount(at(town.streetsOf, one) & at(town.streetsOf, other));
        }

        int mostAlikeTwo() {
            int most = -1;
            int two = NONE;
            for (int a = 0; a < town.ways; a++) {
                for (int b = a + 1; b < town.ways; b++) {
                    int shared = sharedBy(a, b);
                    if (shared > most) {
                        most = shared;
                        two = 10 * a + b;
                    }
                }
            }
            return two;
        }

        int mostUnlikeTwo() {
            int kindsThere = town.kindsOn(town.allStreets());
            int fewest = NEVER;
            int two = NONE;
            for (int a = 0; a < town.ways; a++) {
                for (int b = a + 1; b < town.ways; b++) {
                    int shared = sharedBy(a, b);
                    if (shared < fewest && kindsOfTwo(a, b) == kindsThere) {
                        fewest = shared;
                        two = 10 * a + b;
                    }
                }
            }
            return two;
        }

        private int kindsOfTwo(int one, int other) {
            return town.kindsOn(at(town.streetsOf, one) | at(town.streetsOf, other));
        }

        /** How far the hardest of a set of ways is from the one that is least hard. */
        int apart(int set, int hour) {
            int least = NEVER;
            int most = 0;
            for (int w = 0; w < town.ways; w++) {
                if (has(set, w)) {
                    int hard = town.hardOn(at(town.streetsOf, w), hour);
                    least = Math.min(least, hard);
                    most = Math.max(most, hard);
                }
            }
            return Math.max(0, most - least);
        }

        int fairestSet(int hour, int k) {
            int least = NEVER;
            int fairest = NONE;
            for (int set = 1; set <= town.allWays(); set++) {
                if (Integer.bitCount(set) == k) {
                    int apart = apart(set, hour);
                    if (apart < least) {
                        least = apart;
                        fairest = set;
                    }
                }
            }
            return fairest;
        }

        /** The streets that one knows who followed n tests, on ways 0, 1, .. round. */
        int followed(int n) {
            int known = 0;
            for (int w = 0; w < town.ways && w < n; w++) {
                known |= at(town.streetsOf, w);
            }
            return known;
        }

        int testsToFollow() {
            int all = followed(town.ways);
            for (int n = 0; n < town.ways; n++) {
                if (followed(n) == all) {
                    return n;
                }
            }
            return town.ways;
        }

        int nearestSet(int kinds, int minutes, int v) {
            int least = NEVER;
            int nearest = NONE;
            for (int set = 1; set <= town.allStreets(); set++) {
                if ((town.kindsOn(set) & kinds) == kinds && town.minutesOn(set) <= minutes) {
                    int away = Math.abs(town.hardOn(set, town.hour) - v);
                    if (away < least) {
                        least = away;
                        nearest = set;
                    }
                }
            }
            return nearest;
        }

        int waysThrough(int street) {
            int through = 0;
            for (int w = 0; w < town.ways; w++) {
                if (street >= 0 && has(at(town.streetsOf, w), street)) {
                    through++;
                }
            }
            return through;
        }

        int mostCrowded() {
            int most = -1;
            int street = NONE;
            for (int s = 0; s < town.streets; s++) {
                int through = waysThrough(s);
                if (through > most) {
                    most = through;
                    street = s;
                }
            }
            return street;
        }

        int hardestHour(int way) {
            int streets = at(town.streetsOf, way);
            int most = -1;
            int hardest = 0;
            for (int hour = 0; hour < HOURS; hour++) {
                int hard = town.hardOn(streets, hour);
                if (hard > most) {
                    most = hard;
                    hardest = hour;
                }
            }
            return hardest;
        }

        int longestWay() {
            int most = -1;
            int longest = NONE;
            for (int w = 0; w < town.ways; w++) {
                int minutes = town.minutesOn(at(town.streetsOf, w));
                if (minutes > most) {
                    most = minutes;
                    longest = w;
                }
            }
            return longest;
        }
    }

    /** What is asked of one learner. */
    private static final class OfOne {
        private final Town town;

        OfOne(Town town) {
            this.town = town;
        }

        private int skillOf(int learner) {
            return at(town.skillOf, learner);
        }

        private int knownOf(int learner) {
            return at(town.knownOf, learner);
        }

        int worstStreet(int learner, int way, int hour) {
            int bits = at(town.streetsOf, way);
            int most = -1;
            int worst = 0;
            for (int s = 0; s < town.streets; s++) {
                if (has(bits, s)) {
                    int faults = town.faultsIn(learner, s, hour);
                    if (faults > most) {
                        most = faults;
                        worst = s;
                    }
                }
            }
            return worst;
        }

        int hourOfFewest(int learner, int way) {
            int fewest = NEVER;
            int best = 0;
            for (int hour = 0; hour < HOURS; hour++) {
                int faults = town.faultsOn(learner, way, hour);
                if (faults < fewest) {
                    fewest = faults;
                    best = hour;
                }
            }
            return best;
        }

        int hoursPassed(int learner, int way) {
            int hours = 0;
            for (int hour = 0; hour < HOURS; hour++) {
                if (town.passes(learner, way, hour)) {
                    hours |= 1 << hour;
                }
            }
            return hours;
        }

        int wayOfFewest(int learner, int hour) {
            int fewest = NEVER;
            int best = NONE;
            for (int w = 0; w < town.ways; w++) {
                int faults = town.faultsOn(learner, w, hour);
                if (faults < fewest) {
                    fewest = faults;
                    best = w;
                }
            }
            return best;
        }

        /** The fewest streets to know besides to pass a set of ways. */
        int toLearn(int learner, int wanted, int hour) {
            int known = knownOf(learner);
            int fewest = NEVER;
            int best = NONE;
            for (int more = 0; more <= town.allStreets(); more++) {
                int many = Integer.bitCount(more);
                if ((more & known) == 0 && many < fewest && passesAll(learner, wanted, known | more, hour)) {
                    fewest = many;
                    best = more;
                }
            }
            return best;
        }

        private boolean passesAll(int learner, int wanted, int known, int hour) {
            for (int w = 0; w < town.ways; w++) {
                if (has(wanted, w) && town.limitToPass(w, skillOf(learner), known, hour) > town.limit) {
                    return false;
                }
            }
            return true;
        }

        int lessonsToPass(int learner, int way, int hour) {
            int known = knownOf(learner);
            int toShow = at(town.streetsOf, way) & ~known;
            int shown = 0;
            if (town.limitToPass(way, skillOf(learner), known, hour) <= town.limit) {
                return shown;
            }
            for (int s = 0; s < town.streets; s++) {
                if (has(toShow, s)) {
                    known |= 1 << s;
                    shown++;
                    if (town.limitToPass(way, skillOf(learner), known, hour) <= town.limit) {
                        return shown;
                    }
                }
            }
            return NONE;
        }

        int leastSkill(int learner, int way, int hour) {
            for (int skill = 0; skill <= GREATEST_DIGIT; skill++) {
                if (town.limitToPass(way, skill, knownOf(learner), hour) <= town.limit) {
                    return skill;
                }
            }
            return NONE;
        }

        /** Of all throws of odds 1 in t, one for each street of the way: with how many one passes. */
        long chancesWithBalls(int learner, int way, int t) {
            int bits = at(town.streetsOf, way);
            int streets = Integer.bitCount(bits);
            long chances = 0;
            for (int balls = 0; balls <= bits; balls++) {
                if ((balls & ~bits) == 0 && passesWithBalls(learner, bits, balls)) {
                    chances += power(t - 1, streets - Integer.bitCount(balls));
                }
            }
            return chances;
        }

        private boolean passesWithBalls(int learner, int bits, int balls) {
            int all = 0;
            for (int s = 0; s < town.streets; s++) {
                if (has(bits, s)) {
                    int faults = town.faultsIn(learner, s, town.hour) + (has(balls, s) ? town.ballOf(s) : 0);
                    if (faults > MOST_FAULTS_IN_STREET) {
                        return false;
                    }
                    all += faults;
                }
            }
            return all <= town.limit;
        }

        /** Ways and hours, each two counted, that one passes who knows these streets. */
        private int passedKnowing(int learner, int known) {
            int passed = 0;
            for (int hour = 0; hour < HOURS; hour++) {
                passed += Integer.bitCount(town.waysPassed(skillOf(learner), known, hour));
            }
            return passed;
        }

        int gained(int learner, int street) {
            int known = knownOf(learner);
            return passedKnowing(learner, known | 1 << street) - passedKnowing(learner, known);
        }

        /** The most passed is the most gained: what all gains are counted from is the same. */
        int bestLesson(int learner) {
            int known = knownOf(learner);
            int most = -1;
            int best = NONE;
            for (int s = 0; s < town.streets; s++) {
                if (!has(known, s)) {
                    int passed = passedKnowing(learner, known | 1 << s);
                    if (passed > most) {
                        most = passed;
                        best = s;
                    }
                }
            }
            return best;
        }

        int passedInRow(int learner, int n) {
            int known = knownOf(learner);
            int passed = 0;
            for (int i = 0; i < n && town.ways > 0; i++) {
                int way = remainder(i, town.ways);
                if (town.limitToPass(way, skillOf(learner), known, town.hour) <= town.limit) {
                    passed++;
                }
                known |= at(town.streetsOf, way);
            }
            return passed;
        }
    }

    /** What is asked of all learners together. */
    private static final class OfAll {
        private final Town town;
        /** By sets of learners (bits): how many of them pass at best, if they are the last to be tested. */
        private final int[] mostOfLast;

        OfAll(Town town) {
            this.town = town;
            mostOfLast = new int[1 << MOST_LEARNERS];
        }

        int allKnown() {
            int all = 0;
            for (int i = 0; i < town.learners; i++) {
                all += Integer.bitCount(at(town.knownOf, i));
            }
            return all;
        }

        /** Of the best order: how many pass (i -1), or the i-th. The least who keeps the rest best stands first. */
        int queued(int way, int i) {
            findMostOfLast(way);
            int left = (1 << town.learners) - 1;
            if (i < 0) {
                return at(mostOfLast, left);
            }
            for (int place = 0; place < town.learners; place++) {
                int next = nextOf(left, way, place);
                if (place == i) {
                    return next;
                }
                left &= ~(1 << next);
            }
            return NONE;
        }

        private void findMostOfLast(int way) {
            store(mostOfLast, 0, 0);
            for (int left = 1; left < 1 << town.learners; left++) {
                int place = town.learners - Integer.bitCount(left);
                int most = 0;
                for (int learner = 0; learner < town.learners; learner++) {
                    if (has(left, learner)) {
                        most = Math.max(most, mostWithNext(left, learner, way, place));
                    }
                }
                store(mostOfLast, left, most);
            }
        }

        private int mostWithNext(int left, int learner, int way, int place) {
            int hour = (town.hour + place) % HOURS;
            int passed = town.passes(learner, way, hour) ? 1 : 0;
            return passed + at(mostOfLast, left & ~(1 << learner));
        }

        private int nextOf(int left, int way, int place) {
            for (int learner = 0; learner < town.learners; learner++) {
                if (has(left, learner) && mostWithNext(left, learner, way, place) == at(mostOfLast, left)) {
                    return learner;
                }
            }
            return 0;
        }

        int ranked(int way, int i) {
            for (int learner = 0; learner < town.learners; learner++) {
                if (aheadOf(learner, way) == i) {
                    return learner;
                }
            }
            return NONE;
        }

        private int aheadOf(int learner, int way) {
            int own = town.faultsOn(learner, way, town.hour);
            int ahead = 0;
            for (int other = 0; other < town.learners; other++) {
                int faults = town.faultsOn(other, way, town.hour);
                if (faults < own || faults == own && other < learner) {
                    ahead++;
                }
            }
            return ahead;
        }

        int leastLimit() {
            int least = 0;
            for (int learner = 0; learner < town.learners; learner++) {
                int skill = at(town.skillOf, learner);
                int known = at(town.knownOf, learner);
                for (int w = 0; w < town.ways; w++) {
                    least = Math.max(least, town.limitToPass(w, skill, known, town.hour));
                }
            }
            return least > GREATEST_NUMBER ? NONE : least;
        }

        int passersAt(int way, int hour) {
            int passers = 0;
            for (int learner = 0; learner < town.learners; learner++) {
                if (town.passes(learner, way, hour)) {
                    passers++;
                }
            }
            return passers;
        }

        int hourOfMost(int way) {
            int most = -1;
            int best = 0;
            for (int hour = 0; hour < HOURS; hour++) {
                int passers = passersAt(way, hour);
                if (passers > most) {
                    most = passers;
                    best = hour;
                }
            }
            return best;
        }

        int twosAlike() {
            int twos = 0;
            for (int a = 0; a < town.learners; a++) {
                int passed = waysOf(a);
                for (int b = a + 1; b < town.learners; b++) {
                    if (passed == waysOf(b)) {
                        twos++;
                    }
                }
            }
            return twos;
        }

        private int waysOf(int learner) {
            return town.waysPassed(at(town.skillOf, learner), at(town.knownOf, learner), town.hour);
        }

        /** Each day is from now: what a day's tests would teach is not known on the next. */
        int byLot(int days, int seed, int what) {
            int z = seed;
            int passed = 0;
            int faults = 0;
            for (int test = 0; test < days * town.learners && town.ways > 0; test++) {
                int learner = remainder(test, town.learners);
                z = drawn(z);
                int hour = below(z, HOURS);
                z = drawn(z);
                int way = below(z, town.ways);
                passed += town.passes(learner, way, hour) ? 1 : 0;
                faults += town.faultsOn(learner, way, hour);
            }
            return what == 0 ? passed : faults;
        }

        private static int drawn(int z) {
            return z * 1103515245 + 12345;
        }

        private static int below(int z, int n) {
            return remainder((z & 0x7fffffff) >> 16, n);
        }
    }
}
