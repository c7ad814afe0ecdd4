/** The book of a diving bell: its air, its men, the wreck below it, the signals and the log. */
public final class BellBook {
    public static final int NONE = -6, UNKNOWN = -1, OUTSIDE = -2, STATE = -3, FULL = -4, NO = -5;

    private static final int MEN = 6;
    private static final int HOSES = 3;
    private static final int SIDE = 7;
    private static final int SQUARES = SIDE * SIDE;
    private static final int ABOARD = 0;
    private static final int IN = 1;
    private static final int OUT = 2;

    private final Bell bell;
    private final Crew crew;
    private final Wreck wreck;
    private final Line line;
    private final Book book;
    private int minute;

    public BellBook() {
        bell = new Bell();
        crew = new Crew();
        wreck = new Wreck();
        line = new Line();
        book = new Book();
        minute = 0;
    }

    // ---- 1 the bell

    public int room(int v) {
        if (!within(v, 100, 5000)) return OUTSIDE;
        if (crew.countBelow() > 0 || bell.depth != 0) return STATE;
        int was = bell.room;
        bell.beginAnew(v);
        return was;
    }

    public int depth(int d) {
        if (!within(d, 0, 90)) return OUTSIDE;
        if (crew.anyOut()) return STATE;
        bell.depth = d;
        return bell.spillOver();
    }

    public int tip() {
        return bell.spill(bell.shares() / 2);
    }

    public int barrel(int shares) {
        if (!within(shares, 1, Bell.MOST_IN_BARREL)) return OUTSIDE;
        if (bell.barrels >= Bell.MOST_BARRELS) return FULL;
        return bell.letIn(shares);
    }

    public int breath(int v) {
        if (!within(v, 1, 30)) return OUTSIDE;
        int was = bell.breath;
        bell.breath = v;
        return was;
    }

    public int limit(int v) {
        if (!within(v, 1, 100)) return OUTSIDE;
        int was = bell.limit;
        bell.limit = v;
        return was;
    }

    public int minutes(int n) {
        if (!within(n, 1, 200)) return OUTSIDE;
        int ahead = bell.breathLacks + bell.stayLacks;
        for (int i = 0; i < n; i++) passMinute();
        return bell.breathLacks + bell.stayLacks - ahead;
    }

    public int air(int what) {
        switch (what) {
            case 0: return bell.fresh;
            case 1: return bell.foul;
            case 2: return bell.sent;
            case 3: return bell.breathed;
            case 4: return bell.spilled;
            case 5: return bell.dry();
            case 6: return bell.room - bell.dry();
            case 7: return Bell.foulness(bell.fresh, bell.foul);
            case 8: return bell.lasts(crew.countBelow());
            case 9: return bell.most();
            case 10: return bell.barrels;
            case 11: return bell.breathLacks;
            case 12: return bell.stayLacks;
            default: return OUTSIDE;
        }
    }

    public int fewest(int b) {
        if (!within(b, 1, Bell.MOST_IN_BARREL)) return OUTSIDE;
        return bell.fewestBarrels(b);
    }

    // ---- 2 men

    public int go(int man, boolean in) {
        if (!isMan(man)) return UNKNOWN;
        int was = crew.where[man];
        if (bell.depth != 0 && (was == ABOARD || !in)) return STATE;
        boolean already = was == (in ? IN : ABOARD);
        if (already || (was == OUT && !in)) return NO;
        crew.bring(man, in ? IN : ABOARD);
        return was;
    }

    public int out(int man, int hose, int square) {
        if (!isMan(man) || !isHose(hose) || !isSquare(square)) return UNKNOWN;
        int was = crew.where[man];
        if (was == ABOARD || (was == OUT && crew.hose[man] != hose)) return STATE;
        if (crew.othersOn(hose, man) >= Crew.MOST_ON_HOSE) return FULL;
        if (distance(crew.bellSquare, square) > crew.length[hose]) return NO;
        crew.send(man, hose, square);
        return 1;
    }

    public int hose(int hose, int length) {
        if (!isHose(hose)) return UNKNOWN;
        if (!within(length, 1, 12)) return OUTSIDE;
        if (crew.countOn(hose) > 0) return STATE;
        int was = crew.length[hose];
        crew.length[hose] = length;
        return was;
    }

    public int stay(int v) {
        if (!within(v, 1, 60)) return OUTSIDE;
        int was = crew.stay;
        crew.stay = v;
        return was;
    }

    public int hang(int square) {
        if (!isSquare(square)) return UNKNOWN;
        if (crew.anyOut()) return STATE;
        int was = crew.bellSquare;
        crew.bellSquare = square;
        return was;
    }

    public int man(int man, int what) {
        if (!isMan(man)) return UNKNOWN;
        switch (what) {
            case 0: return crew.where[man];
            case 1: return crew.square[man];
            case 2: return crew.hose[man];
            case 3: return crew.stayed[man];
            case 4: return crew.task[man];
            default: return OUTSIDE;
        }
    }

    // ---- 3 the wreck

    public int thing(int square, int worth, int work, int odds) {
        if (!isSquare(square)) return UNKNOWN;
        if (!within(worth, 0, 1000) || !within(work, 1, 200) || !within(odds, 0, 100)) return OUTSIDE;
        if (wreck.count >= Wreck.MOST) return FULL;
        return wreck.add(square, worth, work, odds);
    }

    public int under(int thing, int other, boolean is) {
        if (!wreck.has(thing) || !wreck.has(other) || thing == other) return UNKNOWN;
        if (is && wreck.liesBelow(other, thing)) return NO;
        int was = bit(wreck.under[thing], other);
        wreck.layUnder(thing, other, is);
        return was;
    }

    public int tangle(int thing, boolean is) {
        if (!wreck.has(thing)) return UNKNOWN;
        int was = bit(wreck.tangled, thing);
        wreck.markTangled(thing, is);
        return was;
    }

    public int work(int man, int thing) {
        if (!isMan(man)) return UNKNOWN;
        if (thing != -1 && !wreck.has(thing)) return UNKNOWN;
        int was = crew.task[man];
        crew.task[man] = thing == -1 ? NONE : thing;
        return was;
    }

    public int ofThing(int thing, int what) {
        if (!wreck.has(thing)) return UNKNOWN;
        switch (what) {
            case 0: return wreck.square[thing];
            case 1: return wreck.worth[thing];
            case 2: return wreck.work[thing];
            case 3: return wreck.odds[thing];
            case 4: return wreck.worked[thing];
            case 5: return bit(wreck.raised, thing);
            case 6: return wreck.isFree(thing) ? 1 : 0;
            case 7: return bit(wreck.tangled, thing);
            case 8: return wreck.under[thing];
            default: return OUTSIDE;
        }
    }

    public int tide(int minutes) {
        if (!within(minutes, 1, Tides.LONGEST)) return OUTSIDE;
        if (wreck.tides.count >= Tides.MOST) return FULL;
        return wreck.addTide(minutes);
    }

    public int calm() {
        return wreck.dropTides();
    }

    public int best(int i) {
        if (i < -3) return OUTSIDE;
        Plan plan = wreck.bestPlan();
        if (i == -1) return plan.hope;
        if (i == -2) return plan.toil;
        if (i == -3) return plan.count;
        return i < plan.count ? plan.order[i] : NONE;
    }

    public int tideOf(int i) {
        if (i < 0) return NONE;
        Plan plan = wreck.bestPlan();
        return i < plan.count ? plan.when[i] : NONE;
    }

    // ---- 4 signals

    public int sign(int sign, int a, int b) {
        if (!within(sign, 0, Line.SIGNS - 1)) return UNKNOWN;
        if (a == 0 && b == 0) {
            line.put(sign, 0, 0);
            return 1;
        }
        if (!Line.isTugs(a, b)) return OUTSIDE;
        int owner = line.signOf(a, b);
        if (owner != NONE && owner != sign) return NO;
        line.put(sign, a, b);
        return 1;
    }

    public int heard(int a, int b) {
        if (!Line.isHearing(a, b)) return OUTSIDE;
        int just = line.signOf(a, b);
        return just != NONE ? just : line.onlyOneApart(a, b);
    }

    public int hear(int a, int b) {
        if (!Line.isHearing(a, b)) return OUTSIDE;
        if (line.hearings >= Line.MOST_HEARINGS) return FULL;
        return line.addHearing(a, b);
    }

    public int tell() {
        int sign = line.hearings == 0 ? NONE : line.nearestToRow();
        line.hearings = 0;
        return sign;
    }

    public int tight() {
        return line.leastApart();
    }

    public int free(int d) {
        if (!within(d, 1, 10)) return OUTSIDE;
        return line.firstFree(d);
    }

    // ---- 5 the log

    public int entry(int minute, int man, int where) {
        if (!isMan(man)) return UNKNOWN;
        if (!within(minute, 0, 1000) || !within(where, ABOARD, OUT)) return OUTSIDE;
        if (book.count >= Book.MOST) return FULL;
        if (!book.mayFollow(minute, man)) return NO;
        return book.add(minute, man, where);
    }

    public int log(int man, int what) {
        if (!isMan(man)) return UNKNOWN;
        if (!within(what, 0, 5)) return OUTSIDE;
        book.read(man);
        switch (what) {
            case 0: return book.seen;
            case 1: return book.longestSure;
            case 2: return book.longestMaybe;
            case 3: return book.verdict(crew.stay);
            case 4: return book.sure;
            default: return book.dark;
        }
    }

    public int told(int what) {
        switch (what) {
            case 0: return minute;
            case 1: return crew.bellSquare;
            case 2: return bell.depth;
            case 3: return wreck.count;
            case 4: return wreck.raised;
            case 5: return wreck.tides.count;
            case 6: return line.countSigns();
            case 7: return book.count;
            case 8: return line.hearings;
            case 9: return wreck.raisedWorth();
            default: return OUTSIDE;
        }
    }

    // ---- what the calls share

    private void passMinute() {
        minute++;
        for (int man = 0; man < MEN; man++) {
            if (crew.where[man] != ABOARD) bell.breathe();
            if (crew.where[man] == OUT) {
                if (crew.countMinuteOut(man)) bell.stayLacks++;
                toil(man);
            }
        }
    }

    private void toil(int man) {
        int thing = crew.task[man];
        if (!wreck.has(thing)) return;
        if (wreck.square[thing] == crew.square[man] && wreck.canBeWorked(thing)) wreck.workMinute(thing);
    }

    private static boolean within(int v, int low, int high) {
        return v >= low && v <= high;
    }

    private static boolean isMan(int man) {
        return within(man, 0, MEN - 1);
    }

    private static boolean isHose(int hose) {
        return within(hose, 0, HOSES - 1);
    }

    private static boolean isSquare(int square) {
        return within(square, 0, SQUARES - 1);
    }

    private static int bit(int bits, int i) {
        return bits >> i & 1;
    }

    private static int distance(int from, int to) {
        return apart(from % SIDE, from / SIDE, to % SIDE, to / SIDE);
    }

    private static int apart(int a, int b, int c, int d) {
        return Math.abs(a - c) + Math.abs(b - d);
    }

    /** The air under the iron, counted in shares. */
    private static final class Bell {
        static final int MOST_BARRELS = 40;
        static final int MOST_IN_BARREL = 500;
        static final int NO_END = 100000;

        int room;
        int depth;
        int fresh;
        int foul;
        int sent;
        int breathed;
        int spilled;
        int barrels;
        int breathLacks;
        int stayLacks;
        int breath;
        int limit;

        Bell() {
            depth = 0;
            breath = 3;
            limit = 40;
            beginAnew(1000);
        }

        /** Only called at depth 0, where the room itself is what the bell holds. */
        void beginAnew(int newRoom) {
            room = newRoom;
            fresh = newRoom;
            foul = 0;
            sent = newRoom;
            breathed = 0;
            spilled = 0;
            barrels = 0;
            breathLacks = 0;
            stayLacks = 0;
        }

        int shares() {
            return fresh + foul;
        }

        int most() {
            return room * (10 + depth) / 10;
        }

        int dry() {
            return shares() * 10 / (10 + depth);
        }

        int spill(int n) {
            int foulOnes = foulPart(n, fresh, foul);
            foul -= foulOnes;
            fresh -= n - foulOnes;
            spilled += n;
            return n;
        }

        int spillOver() {
            return spill(Math.max(0, shares() - most()));
        }

        int letIn(int n) {
            barrels++;
            sent += n;
            fresh += n;
            return spillOver();
        }

        void breathe() {
            int n = Math.min(breath, fresh);
            fresh -= n;
            foul += n;
            breathed += n;
            if (n < breath) breathLacks++;
        }

        int lasts(int men) {
            int inMinute = men * breath;
            return inMinute <= 0 ? NO_END : fresh / inMinute;
        }

        int fewestBarrels(int n) {
            int thenFresh = fresh;
            int thenFoul = foul;
            for (int let = 0; let <= MOST_BARRELS; let++) {
                if (foulness(thenFresh, thenFoul) <= limit) return let;
                thenFresh += n;
                int over = Math.max(0, thenFresh + thenFoul - most());
                int foulOver = foulPart(over, thenFresh, thenFoul);
                thenFoul -= foulOver;
                thenFresh -= over - foulOver;
            }
            return NONE;
        }

        static int foulness(int fresh, int foul) {
            return foulPart(100, fresh, foul);
        }

        static int foulPart(int n, int fresh, int foul) {
            int all = fresh + foul;
            return all <= 0 ? 0 : (int) ((long) n * foul / all);
        }
    }

    /** The men, the hoses they go out by, and the square over which the bell hangs. */
    private static final class Crew {
        static final int MOST_ON_HOSE = 2;

        final int[] where;
        final int[] square;
        final int[] hose;
        final int[] stayed;
        final int[] task;
        final int[] length;
        int stay;
        int bellSquare;

        Crew() {
            where = new int[MEN];
            square = new int[MEN];
            hose = new int[MEN];
            stayed = new int[MEN];
            task = new int[MEN];
            length = new int[HOSES];
            for (int man = 0; man < MEN; man++) {
                square[man] = NONE;
                hose[man] = NONE;
                task[man] = NONE;
            }
            for (int i = 0; i < HOSES; i++) length[i] = 4;
            stay = 10;
            bellSquare = 24;
        }

        int countBelow() {
            int n = 0;
            for (int man = 0; man < MEN; man++) {
                if (where[man] != ABOARD) n++;
            }
            return n;
        }

        boolean anyOut() {
            for (int man = 0; man < MEN; man++) {
                if (where[man] == OUT) return true;
            }
            return false;
        }

        int countOn(int someHose) {
            return othersOn(someHose, NONE);
        }

        int othersOn(int someHose, int butMan) {
            int n = 0;
            for (int man = 0; man < MEN; man++) {
                if (man != butMan && hose[man] == someHose) n++;
            }
            return n;
        }

        /** To the bell or the ship: what only counts outside is gone with that. */
        void bring(int man, int to) {
            where[man] = to;
            square[man] = NONE;
            hose[man] = NONE;
            stayed[man] = 0;
        }

        void send(int man, int byHose, int toSquare) {
            where[man] = OUT;
            hose[man] = byHose;
            square[man] = toSquare;
        }

        /** Whether he lacks air by it. */
        boolean countMinuteOut(int man) {
            stayed[man] += countOn(hose[man]) == 2 ? 2 : 1;
            return stayed[man] > stay;
        }
    }

    /** The things of the wreck, by numbers; sets of things are bits. */
    private static final class Wreck {
        static final int MOST = 12;

        final int[] square;
        final int[] worth;
        final int[] work;
        final int[] odds;
        final int[] worked;
        final int[] under;
        final Tides tides;
        private final Plan plan;
        int count;
        int raised;
        int tangled;
        // A plan is dear to make and asked for many times in a row: it is kept till something it rests on changes.
        private boolean planStands;

        Wreck() {
            square = new int[MOST];
            worth = new int[MOST];
            work = new int[MOST];
            odds = new int[MOST];
            worked = new int[MOST];
            under = new int[MOST];
            tides = new Tides();
            plan = new Plan();
            count = 0;
            raised = 0;
            tangled = 0;
            planStands = false;
        }

        boolean has(int thing) {
            return within(thing, 0, count - 1);
        }

        int add(int atSquare, int itsWorth, int itsWork, int itsOdds) {
            int thing = count;
            square[thing] = atSquare;
            worth[thing] = itsWorth;
            work[thing] = itsWork;
            odds[thing] = itsOdds;
            count++;
            planStands = false;
            return thing;
        }

        void layUnder(int thing, int other, boolean is) {
            under[thing] = is ? under[thing] | 1 << other : under[thing] & ~(1 << other);
            planStands = false;
        }

        void markTangled(int thing, boolean is) {
            tangled = is ? tangled | 1 << thing : tangled & ~(1 << thing);
            planStands = false;
        }

        /** Whether the low thing lies under the high one, straight or by others between them. */
        boolean liesBelow(int low, int high) {
            int reached = 1 << low;
            for (int step = 0; step < count; step++) {
                for (int thing = 0; thing < count; thing++) {
                    if (bit(reached, thing) == 1) reached |= under[thing];
                }
            }
            return bit(reached, high) == 1;
        }

        boolean isFree(int thing) {
            return (under[thing] & ~raised) == 0;
        }

        boolean canBeWorked(int thing) {
            return isFree(thing) && bit(raised | tangled, thing) == 0;
        }

        void workMinute(int thing) {
            worked[thing]++;
            if (worked[thing] >= work[thing]) raised |= 1 << thing;
            planStands = false;
        }

        int raisedWorth() {
            int sum = 0;
            for (int thing = 0; thing < count; thing++) sum += bit(raised, thing) * worth[thing];
            return sum;
        }

        int addTide(int minutes) {
            planStands = false;
            return tides.add(minutes);
        }

        int dropTides() {
            int were = tides.count;
            tides.count = 0;
            planStands = false;
            return were;
        }

        Plan bestPlan() {
            if (!planStands) plan.make(this);
            planStands = true;
            return plan;
        }

        int left(int thing) {
            return work[thing] - worked[thing];
        }

        /** Whether nothing outside the set, but for raised things, lies over one of the set. */
        boolean isWhole(int set) {
            for (int thing = 0; thing < count; thing++) {
                if (bit(set, thing) == 1 && (under[thing] & ~raised & ~set) != 0) return false;
            }
            return true;
        }
    }

    /** The tides; a moment is a tide and the minutes used of it, as one number that grows with time. */
    private static final class Tides {
        static final int MOST = 5;
        static final int LONGEST = 300;
        static final int NEVER = -1;
        // More than the longest tide has minutes, so that moments of two tides never meet.
        private static final int SPAN = 512;

        private final int[] length;
        int count;

        Tides() {
            length = new int[MOST];
            count = 0;
        }

        int add(int minutes) {
            length[count] = minutes;
            count++;
            return count;
        }

        static int tideAt(int moment) {
            return moment / SPAN;
        }

        int lastMoment() {
            return count == 0 ? NEVER : moment(count - 1, length[count - 1]);
        }

        /** When work that may begin at the moment is ended at the soonest. */
        int soonestEnd(int moment, int minutes) {
            int now = tideAt(moment);
            if (now < count && moment % SPAN + minutes <= length[now]) return moment + minutes;
            for (int tide = now + 1; tide < count; tide++) {
                if (minutes <= length[tide]) return moment(tide, minutes);
            }
            return NEVER;
        }

        /** The latest moment from which work is ended at the given one or ahead of it. */
        int latestBegin(int moment, int minutes) {
            if (moment % SPAN >= minutes) return moment - minutes;
            for (int tide = tideAt(moment) - 1; tide >= 0; tide--) {
                if (minutes <= length[tide]) return moment(tide, length[tide] - minutes);
            }
            return NEVER;
        }

        private static int moment(int tide, int used) {
            return tide * SPAN + used;
        }
    }

    /** The best plan: what is raised, in which order, in which tides. */
    private static final class Plan {
        final int[] order;
        final int[] when;
        int count;
        int hope;
        int toil;
        // For each set of things: the latest moment from which all of it can still be done, or NEVER.
        private final int[] latest;

        Plan() {
            order = new int[Wreck.MOST];
            when = new int[Wreck.MOST];
            latest = new int[1 << Wreck.MOST];
            count = 0;
            hope = 0;
            toil = 0;
        }

        void make(Wreck wreck) {
            findLatest(wreck);
            setInOrder(wreck, chooseSet(wreck));
        }

        private void findLatest(Wreck wreck) {
            int shut = wreck.raised | wreck.tangled;
            latest[0] = wreck.tides.lastMoment();
            for (int set = 1; set < 1 << wreck.count; set++) {
                latest[set] = (set & shut) != 0 ? Tides.NEVER : latestOf(wreck, set);
            }
        }

        /** Tries each thing of the set that may come first; the rest of the set is a smaller number, known already. */
        private int latestOf(Wreck wreck, int set) {
            int moment = Tides.NEVER;
            for (int thing = 0; thing < wreck.count; thing++) {
                if (!mayBeFirst(wreck, set, thing)) continue;
                int rest = latest[set & ~(1 << thing)];
                if (rest == Tides.NEVER) continue;
                moment = Math.max(moment, wreck.tides.latestBegin(rest, wreck.left(thing)));
            }
            return moment;
        }

        private static boolean mayBeFirst(Wreck wreck, int set, int thing) {
            return bit(set, thing) == 1 && (wreck.under[thing] & set) == 0;
        }

        /** Sets come by their bits, so that of equals the least stays. */
        private int chooseSet(Wreck wreck) {
            int chosen = 0;
            hope = 0;
            toil = 0;
            for (int set = 1; set < 1 << wreck.count; set++) {
                if (latest[set] == Tides.NEVER || !wreck.isWhole(set)) continue;
                int itsHope = hopeOf(wreck, set);
                int itsToil = toilOf(wreck, set);
                if (itsHope > hope || (itsHope == hope && itsToil < toil)) {
                    chosen = set;
                    hope = itsHope;
                    toil = itsToil;
                }
            }
            return chosen;
        }

        private static int hopeOf(Wreck wreck, int set) {
            int sum = 0;
            for (int thing = 0; thing < wreck.count; thing++) {
                if (bit(set, thing) == 1) sum += wreck.worth[thing] * wreck.odds[thing];
            }
            return sum;
        }

        private static int toilOf(Wreck wreck, int set) {
            int sum = 0;
            for (int thing = 0; thing < wreck.count; thing++) {
                if (bit(set, thing) == 1) sum += wreck.left(thing);
            }
            return sum;
        }

        private void setInOrder(Wreck wreck, int chosen) {
            int rest = chosen;
            int moment = 0;
            count = 0;
            for (int place = 0; place < Wreck.MOST && rest != 0; place++) {
                int thing = nextOf(wreck, rest, moment);
                if (thing == NONE) return;
                moment = wreck.tides.soonestEnd(moment, wreck.left(thing));
                rest &= ~(1 << thing);
                order[place] = thing;
                when[place] = Tides.tideAt(moment);
                count++;
            }
        }

        private int nextOf(Wreck wreck, int rest, int moment) {
            for (int thing = 0; thing < wreck.count; thing++) {
                if (!mayBeFirst(wreck, rest, thing)) continue;
                int end = wreck.tides.soonestEnd(moment, wreck.left(thing));
                if (end != Tides.NEVER && end <= latest[rest & ~(1 << thing)]) return thing;
            }
            return NONE;
        }
    }

    /** The signal line: what tugs mean, and a row of hearings. */
    private static final class Line {
        static final int SIGNS = 12;
        static final int MOST_HEARINGS = 4;
        private static final int MOST_TUGS = 6;
        // More than any sum of aparts can be.
        private static final int FAR = 1000;

        // Tugs of a sign; 0 and 0: it is not told.
        private final int[] first;
        private final int[] second;
        private final int[] heardFirst;
        private final int[] heardSecond;
        int hearings;

        Line() {
            first = new int[SIGNS];
            second = new int[SIGNS];
            heardFirst = new int[MOST_HEARINGS];
            heardSecond = new int[MOST_HEARINGS];
            hearings = 0;
        }

        static boolean isTugs(int a, int b) {
            return within(a, 1, MOST_TUGS) && within(b, 1, MOST_TUGS);
        }

        /** Slack may make a tug more or fewer than any sign has. */
        static boolean isHearing(int a, int b) {
            return within(a, 0, MOST_TUGS + 1) && within(b, 0, MOST_TUGS + 1);
        }

        void put(int sign, int a, int b) {
            first[sign] = a;
            second[sign] = b;
        }

        private boolean isSet(int sign) {
            return first[sign] != 0;
        }

        int countSigns() {
            int n = 0;
            for (int sign = 0; sign < SIGNS; sign++) {
                if (isSet(sign)) n++;
            }
            return n;
        }

        private int fromSign(int sign, int a, int b) {
            return apart(first[sign], second[sign], a, b);
        }

        int signOf(int a, int b) {
            for (int sign = 0; sign < SIGNS; sign++) {
                if (isSet(sign) && fromSign(sign, a, b) == 0) return sign;
            }
            return NONE;
        }

        int onlyOneApart(int a, int b) {
            int found = NONE;
            for (int sign = 0; sign < SIGNS; sign++) {
                if (!isSet(sign) || fromSign(sign, a, b) != 1) continue;
                if (found != NONE) return NONE;
                found = sign;
            }
            return found;
        }

        int addHearing(int a, int b) {
            heardFirst[hearings] = a;
            heardSecond[hearings] = b;
            hearings++;
            return hearings;
        }

        int nearestToRow() {
            int found = NONE;
            int least = FAR;
            for (int sign = 0; sign < SIGNS; sign++) {
                if (!isSet(sign)) continue;
                int sum = fromRow(sign);
                if (sum == least) found = NONE;
                if (sum < least) {
                    found = sign;
                    least = sum;
                }
            }
            return found;
        }

        private int fromRow(int sign) {
            int sum = 0;
            for (int i = 0; i < hearings; i++) sum += fromSign(sign, heardFirst[i], heardSecond[i]);
            return sum;
        }

        int leastApart() {
            int least = FAR;
            for (int sign = 0; sign < SIGNS; sign++) {
                if (isSet(sign)) least = Math.min(least, fromSignsBehind(sign));
            }
            return least == FAR ? NONE : least;
        }

        private int fromSignsBehind(int sign) {
            int least = FAR;
            for (int other = sign + 1; other < SIGNS; other++) {
                if (isSet(other)) least = Math.min(least, fromSign(other, first[sign], second[sign]));
            }
            return least;
        }

        int firstFree(int d) {
            for (int a = 1; a <= MOST_TUGS; a++) {
                for (int b = 1; b <= MOST_TUGS; b++) {
                    if (isFarFromAll(a, b, d)) return 10 * a + b;
                }
            }
            return NONE;
        }

        private boolean isFarFromAll(int a, int b, int d) {
            for (int sign = 0; sign < SIGNS; sign++) {
                if (isSet(sign) && fromSign(sign, a, b) < d) return false;
            }
            return true;
        }
    }

    /** The log: entries in order of minutes, and what was last read out of it for a man. */
    private static final class Book {
        static final int MOST = 40;

        private final int[] minutes;
        private final int[] men;
        private final int[] places;
        int count;
        int seen;
        int sure;
        int dark;
        int longestSure;
        int longestMaybe;
        private int sureRow;
        private int maybeRow;

        Book() {
            minutes = new int[MOST];
            men = new int[MOST];
            places = new int[MOST];
            count = 0;
        }

        boolean mayFollow(int minute, int man) {
            for (int i = 0; i < count; i++) {
                if (minutes[i] > minute) return false;
                if (minutes[i] == minute && men[i] == man) return false;
            }
            return true;
        }

        int add(int minute, int man, int place) {
            int number = count;
            minutes[number] = minute;
            men[number] = man;
            places[number] = place;
            count++;
            return number;
        }

        void read(int man) {
            forgetReading();
            int last = NONE;
            for (int i = 0; i < count; i++) {
                if (men[i] != man) continue;
                if (last != NONE) readGap(minutes[i] - minutes[last] - 1, places[last] == OUT && places[i] == OUT);
                readEntry(places[i] == OUT);
                last = i;
            }
        }

        private void forgetReading() {
            seen = 0;
            sure = 0;
            dark = 0;
            longestSure = 0;
            longestMaybe = 0;
            sureRow = 0;
            maybeRow = 0;
        }

        private void readGap(int length, boolean isSure) {
            if (isSure) addSure(length);
            else addDark(length);
        }

        private void readEntry(boolean isOut) {
            seen++;
            if (isOut) {
                addSure(1);
            } else {
                sureRow = 0;
                maybeRow = 0;
            }
        }

        private void addSure(int length) {
            sure += length;
            sureRow += length;
            longestSure = Math.max(longestSure, sureRow);
            growMaybe(length);
        }

        private void addDark(int length) {
            dark += length;
            sureRow = 0;
            growMaybe(length);
        }

        private void growMaybe(int length) {
            maybeRow += length;
            longestMaybe = Math.max(longestMaybe, maybeRow);
        }

        int verdict(int stay) {
            if (longestSure > stay) return 2;
            return longestMaybe > stay ? 1 : 0;
        }
    }
}
