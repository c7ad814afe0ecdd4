import java.util.ArrayList;
import java.util.HashMap;
import java.util.HashSet;
import java.util.LinkedHashSet;
import java.util.List;
import java.util.Map;
import java.util.Set;

/**
 * The document a second time, sentence by sentence, with no thought of speed and no line of BellBook's. Where it can,
 * it comes to an answer by another way: LAST and FEWEST by doing it to a copy, THE LOG minute by minute.
 */
final class Model {
    static final int UNKNOWN = -1, OUTSIDE = -2, STATE = -3, FULL = -4, NO = -5, NONE = -6;

    static final class Air implements Cloneable {
        long room = 1000;
        long depth = 0;
        long fresh = 1000;
        long foul = 0;
        long atFirst = 1000;
        long breath = 3;
        long limit = 40;
        long breathed = 0;
        long spilled = 0;
        long lacks = 0;
        long lacksBeyondStay = 0;
        List<Integer> barrels = new ArrayList<>();

        Air copy() {
            try {
                Air copy = (Air) clone();
                copy.barrels = new ArrayList<>(barrels);
                return copy;
            } catch (CloneNotSupportedException e) {
                throw new IllegalStateException(e);
            }
        }

        long most() {
            return room * (10 + depth) / 10;
        }

        int spill(long n) {
            long all = fresh + foul;
            long foulOnes = all == 0 ? 0 : n * foul / all;
            foul = foul - foulOnes;
            fresh = fresh - (n - foulOnes);
            spilled = spilled + n;
            return (int) n;
        }

        int spillWhatIsAbove() {
            long above = fresh + foul - most();
            return above > 0 ? spill(above) : 0;
        }

        int letIn(int shares) {
            barrels.add(shares);
            fresh = fresh + shares;
            return spillWhatIsAbove();
        }

        /** Whether the man lacks. */
        boolean breathe() {
            boolean isEnough = fresh >= breath;
            long n = isEnough ? breath : fresh;
            fresh = fresh - n;
            foul = foul + n;
            breathed = breathed + n;
            if (!isEnough) lacks++;
            return !isEnough;
        }

        long foulness() {
            return fresh + foul == 0 ? 0 : foul * 100 / (fresh + foul);
        }

        long dry() {
            return (fresh + foul) * 10 / (10 + depth);
        }

        long sent() {
            long sum = atFirst;
            for (int shares : barrels) sum += shares;
            return sum;
        }

        int last(int men) {
            if (men == 0) return 100000;
            Air then = copy();
            for (int minute = 0; ; minute++) {
                for (int i = 0; i < men; i++) {
                    if (then.breathe()) return minute;
                }
            }
        }

        int fewest(int shares) {
            Air then = copy();
            for (int n = 0; n <= 40; n++) {
                if (then.foulness() <= limit) return n;
                then.letIn(shares);
            }
            return NONE;
        }
    }

    static final class Man {
        int where = 0;
        int square = NONE;
        int hose = NONE;
        int counts = 0;
        Thing told = null;
    }

    static final class Thing {
        int number;
        int square;
        int worth;
        int work;
        int odds;
        int worked = 0;
        boolean tangled = false;
        final Set<Thing> liesUnder = new LinkedHashSet<>();

        boolean isRaised() {
            return worked == work;
        }

        boolean isFree() {
            for (Thing other : liesUnder) {
                if (!other.isRaised()) return false;
            }
            return true;
        }

        boolean isDeepUnder(Thing other) {
            for (Thing over : liesUnder) {
                if (over == other || over.isDeepUnder(other)) return true;
            }
            return false;
        }
    }

    record Step(Thing thing, int tide) {
    }

    record Tugs(int a, int b) {
        int apart(Tugs other) {
            return Math.abs(a - other.a) + Math.abs(b - other.b);
        }
    }

    record Entry(int minute, int man, int where) {
    }

    Air air = new Air();
    final Man[] men = new Man[6];
    final int[] lengths = {4, 4, 4};
    int stay = 10;
    int bellSquare = 24;
    int minute = 0;
    final List<Thing> things = new ArrayList<>();
    final List<Integer> tides = new ArrayList<>();
    final Tugs[] signs = new Tugs[12];
    final List<Tugs> row = new ArrayList<>();
    final List<Entry> entries = new ArrayList<>();

    Model() {
        for (int i = 0; i < 6; i++) men[i] = new Man();
    }

    private static boolean is(int v, int low, int high) {
        return low <= v && v <= high;
    }

    private int countMen(int where) {
        int n = 0;
        for (Man m : men) {
            if (m.where == where) n++;
        }
        return n;
    }

    private int countOn(int hose) {
        int n = 0;
        for (Man m : men) {
            if (m.where == 2 && m.hose == hose) n++;
        }
        return n;
    }

    // ---- 1 the bell

    int room(int v) {
        if (!is(v, 100, 5000)) return OUTSIDE;
        if (countMen(0) != 6 || air.depth != 0) return STATE;
        Air anew = new Air();
        anew.room = v;
        anew.fresh = v;
        anew.atFirst = v;
        anew.breath = air.breath;
        anew.limit = air.limit;
        int was = (int) air.room;
        air = anew;
        return was;
    }

    int depth(int d) {
        if (!is(d, 0, 90)) return OUTSIDE;
        if (countMen(2) != 0) return STATE;
        air.depth = d;
        return air.spillWhatIsAbove();
    }

    int tip() {
        return air.spill((air.fresh + air.foul) / 2);
    }

    int barrel(int shares) {
        if (!is(shares, 1, 500)) return OUTSIDE;
        if (air.barrels.size() == 40) return FULL;
        return air.letIn(shares);
    }

    int breath(int v) {
        if (!is(v, 1, 30)) return OUTSIDE;
        int was = (int) air.breath;
        air.breath = v;
        return was;
    }

    int limit(int v) {
        if (!is(v, 1, 100)) return OUTSIDE;
        int was = (int) air.limit;
        air.limit = v;
        return was;
    }

    int minutes(int n) {
        if (!is(n, 1, 200)) return OUTSIDE;
        int lacked = 0;
        for (int i = 0; i < n; i++) {
            minute++;
            for (Man m : men) lacked += minuteOf(m);
        }
        return lacked;
    }

    private int minuteOf(Man m) {
        int lacked = 0;
        if (m.where == 0) return 0;
        if (air.breathe()) lacked++;
        if (m.where == 1) return lacked;
        m.counts += countOn(m.hose);
        if (m.counts > stay) {
            air.lacksBeyondStay++;
            lacked++;
        }
        Thing t = m.told;
        if (t != null && t.square == m.square && t.isFree() && !t.tangled && !t.isRaised()) t.worked++;
        return lacked;
    }

    int air(int what) {
        long[] told = {air.fresh, air.foul, air.sent(), air.breathed, air.spilled, air.dry(), air.room - air.dry(),
            air.foulness(), air.last(countMen(1) + countMen(2)), air.most(), air.barrels.size(), air.lacks,
            air.lacksBeyondStay};
        return is(what, 0, 12) ? (int) told[what] : OUTSIDE;
    }

    int fewest(int b) {
        return is(b, 1, 500) ? air.fewest(b) : OUTSIDE;
    }

    // ---- 2 men

    int go(int man, boolean in) {
        if (!is(man, 0, 5)) return UNKNOWN;
        Man m = men[man];
        int was = m.where;
        boolean wouldGoAboard = !in;
        if (air.depth != 0 && (was == 0 || wouldGoAboard)) return STATE;
        if (in && was == 1 || !in && was == 0 || wouldGoAboard && was == 2) return NO;
        Thing told = m.told;
        men[man] = new Man();
        men[man].where = in ? 1 : 0;
        men[man].told = told;
        return was;
    }

    int out(int man, int hose, int square) {
        if (!is(man, 0, 5) || !is(hose, 0, 2) || !is(square, 0, 48)) return UNKNOWN;
        Man m = men[man];
        if (m.where == 0) return STATE;
        if (m.where == 2 && m.hose != hose) return STATE;
        if (m.where == 1 && countOn(hose) == 2) return FULL;
        int x = Math.abs(square % 7 - bellSquare % 7);
        int y = Math.abs(square / 7 - bellSquare / 7);
        if (x + y > lengths[hose]) return NO;
        m.where = 2;
        m.hose = hose;
        m.square = square;
        return 1;
    }

    int hose(int hose, int length) {
        if (!is(hose, 0, 2)) return UNKNOWN;
        if (!is(length, 1, 12)) return OUTSIDE;
        if (countOn(hose) != 0) return STATE;
        int was = lengths[hose];
        lengths[hose] = length;
        return was;
    }

    int stay(int v) {
        if (!is(v, 1, 60)) return OUTSIDE;
        int was = stay;
        stay = v;
        return was;
    }

    int hang(int square) {
        if (!is(square, 0, 48)) return UNKNOWN;
        if (countMen(2) != 0) return STATE;
        int was = bellSquare;
        bellSquare = square;
        return was;
    }

    int man(int man, int what) {
        if (!is(man, 0, 5)) return UNKNOWN;
        Man m = men[man];
        int[] told = {m.where, m.square, m.hose, m.counts, m.told == null ? NONE : m.told.number};
        return is(what, 0, 4) ? told[what] : OUTSIDE;
    }

    // ---- 3 the wreck

    private boolean isThing(int thing) {
        return is(thing, 0, things.size() - 1);
    }

    int thing(int square, int worth, int work, int odds) {
        if (!is(square, 0, 48)) return UNKNOWN;
        if (!is(worth, 0, 1000) || !is(work, 1, 200) || !is(odds, 0, 100)) return OUTSIDE;
        if (things.size() == 12) return FULL;
        Thing t = new Thing();
        t.number = things.size();
        t.square = square;
        t.worth = worth;
        t.work = work;
        t.odds = odds;
        things.add(t);
        return t.number;
    }

    int under(int thing, int other, boolean is) {
        if (!isThing(thing) || !isThing(other) || thing == other) return UNKNOWN;
        Thing low = things.get(thing);
        Thing high = things.get(other);
        if (is && high.isDeepUnder(low)) return NO;
        boolean changed = is ? low.liesUnder.add(high) : low.liesUnder.remove(high);
        return is != changed ? 1 : 0;
    }

    int tangle(int thing, boolean is) {
        if (!isThing(thing)) return UNKNOWN;
        boolean was = things.get(thing).tangled;
        things.get(thing).tangled = is;
        return was ? 1 : 0;
    }

    int work(int man, int thing) {
        if (!is(man, 0, 5) || !(thing == -1 || isThing(thing))) return UNKNOWN;
        Thing was = men[man].told;
        men[man].told = thing == -1 ? null : things.get(thing);
        return was == null ? NONE : was.number;
    }

    int ofThing(int thing, int what) {
        if (!isThing(thing)) return UNKNOWN;
        Thing t = things.get(thing);
        int bits = 0;
        for (Thing over : t.liesUnder) bits |= 1 << over.number;
        int[] told = {t.square, t.worth, t.work, t.odds, t.worked, t.isRaised() ? 1 : 0, t.isFree() ? 1 : 0,
            t.tangled ? 1 : 0, bits};
        return is(what, 0, 8) ? told[what] : OUTSIDE;
    }

    int tide(int minutes) {
        if (!is(minutes, 1, 300)) return OUTSIDE;
        if (tides.size() == 5) return FULL;
        tides.add(minutes);
        return tides.size();
    }

    int calm() {
        int were = tides.size();
        tides.clear();
        return were;
    }

    int best(int i) {
        if (i < -3) return OUTSIDE;
        List<Step> plan = bestPlan();
        if (i == -1) return hope(plan);
        if (i == -2) return toil(plan);
        if (i == -3) return plan.size();
        return i < plan.size() ? plan.get(i).thing.number : NONE;
    }

    int tideOf(int i) {
        List<Step> plan = bestPlan();
        return is(i, 0, plan.size() - 1) ? plan.get(i).tide : NONE;
    }

    private static int hope(List<Step> plan) {
        int sum = 0;
        for (Step s : plan) sum += s.thing.worth * s.thing.odds;
        return sum;
    }

    private static int toil(List<Step> plan) {
        int sum = 0;
        for (Step s : plan) sum += s.thing.work - s.thing.worked;
        return sum;
    }

    private static int bits(List<Step> plan) {
        int sum = 0;
        for (Step s : plan) sum |= 1 << s.thing.number;
        return sum;
    }

    /** When a thing that comes behind the moment is ended: its tide and the minutes gone of that; null if never. */
    private int[] end(int[] moment, Thing t) {
        int minutes = t.work - t.worked;
        for (int tide = moment[0]; tide < tides.size(); tide++) {
            int gone = tide == moment[0] ? moment[1] : 0;
            if (gone + minutes <= tides.get(tide)) return new int[] {tide, gone + minutes};
        }
        return null;
    }

    private boolean mayCome(Thing t, int done) {
        if (t.isRaised() || t.tangled || (done >> t.number & 1) == 1) return false;
        for (Thing over : t.liesUnder) {
            if (!over.isRaised() && (done >> over.number & 1) == 0) return false;
        }
        return true;
    }

    private List<Step> bestPlan() {
        // For each set that can be done: one plan of it that ends as soon as any.
        Map<Integer, List<Step>> plans = new HashMap<>();
        Map<Integer, int[]> ends = new HashMap<>();
        plans.put(0, new ArrayList<>());
        ends.put(0, new int[] {0, 0});
        int chosen = 0;
        for (int set = 0; set < 1 << things.size(); set++) {
            if (!plans.containsKey(set)) continue;
            if (isBetter(plans.get(set), plans.get(chosen))) chosen = set;
            for (Thing t : things) {
                int[] end = mayCome(t, set) ? end(ends.get(set), t) : null;
                if (end == null) continue;
                int more = set | 1 << t.number;
                int[] known = ends.get(more);
                if (known != null && (known[0] < end[0] || known[0] == end[0] && known[1] <= end[1])) continue;
                List<Step> plan = new ArrayList<>(plans.get(set));
                plan.add(new Step(t, end[0]));
                plans.put(more, plan);
                ends.put(more, end);
            }
        }
        return inOrder(chosen);
    }

    private static boolean isBetter(List<Step> one, List<Step> other) {
        if (hope(one) != hope(other)) return hope(one) > hope(other);
        if (toil(one) != toil(other)) return toil(one) < toil(other);
        return bits(one) < bits(other);
    }

    private List<Step> inOrder(int chosen) {
        List<Step> plan = new ArrayList<>();
        int[] moment = {0, 0};
        int done = 0;
        Set<String> failed = new HashSet<>();
        while (done != chosen) {
            int before = done;
            for (Thing t : things) {
                if ((chosen >> t.number & 1) == 0 || !mayCome(t, done)) continue;
                int[] end = end(moment, t);
                if (end == null || !canAll(chosen, done | 1 << t.number, end, failed)) continue;
                plan.add(new Step(t, end[0]));
                moment = end;
                done |= 1 << t.number;
                break;
            }
            if (done == before) throw new IllegalStateException("the model tells no order of a set that can be done");
        }
        return plan;
    }

    private boolean canAll(int chosen, int done, int[] moment, Set<String> failed) {
        if (done == chosen) return true;
        String key = done + " " + moment[0] + " " + moment[1];
        if (failed.contains(key)) return false;
        for (Thing t : things) {
            if ((chosen >> t.number & 1) == 0 || !mayCome(t, done)) continue;
            int[] end = end(moment, t);
            if (end != null && canAll(chosen, done | 1 << t.number, end, failed)) return true;
        }
        failed.add(key);
        return false;
    }

    // ---- 4 signals

    int sign(int sign, int a, int b) {
        if (!is(sign, 0, 11)) return UNKNOWN;
        boolean none = a == 0 && b == 0;
        if (!none && !(is(a, 1, 6) && is(b, 1, 6))) return OUTSIDE;
        Tugs tugs = none ? null : new Tugs(a, b);
        for (int other = 0; other < 12; other++) {
            if (other != sign && tugs != null && tugs.equals(signs[other])) return NO;
        }
        signs[sign] = tugs;
        return 1;
    }

    /** The only sign for which the sum of aparts from the row is the given one; NONE if there is none, or two. */
    private int only(List<Tugs> hearings, int sum) {
        List<Integer> found = new ArrayList<>();
        for (int sign = 0; sign < 12; sign++) {
            if (signs[sign] != null && sumOf(hearings, signs[sign]) == sum) found.add(sign);
        }
        return found.size() == 1 ? found.get(0) : NONE;
    }

    private static int sumOf(List<Tugs> hearings, Tugs tugs) {
        int sum = 0;
        for (Tugs heard : hearings) sum += heard.apart(tugs);
        return sum;
    }

    int heard(int a, int b) {
        if (!is(a, 0, 7) || !is(b, 0, 7)) return OUTSIDE;
        List<Tugs> one = List.of(new Tugs(a, b));
        int just = only(one, 0);
        return just != NONE ? just : only(one, 1);
    }

    int hear(int a, int b) {
        if (!is(a, 0, 7) || !is(b, 0, 7)) return OUTSIDE;
        if (row.size() == 4) return FULL;
        row.add(new Tugs(a, b));
        return row.size();
    }

    int tell() {
        List<Tugs> hearings = new ArrayList<>(row);
        row.clear();
        if (hearings.isEmpty()) return NONE;
        int least = Integer.MAX_VALUE;
        for (Tugs tugs : signs) {
            if (tugs != null) least = Math.min(least, sumOf(hearings, tugs));
        }
        return only(hearings, least);
    }

    int tight() {
        int least = Integer.MAX_VALUE;
        for (int one = 0; one < 12; one++) {
            for (int other = 0; other < one; other++) {
                if (signs[one] != null && signs[other] != null) least = Math.min(least, signs[one].apart(signs[other]));
            }
        }
        return least == Integer.MAX_VALUE ? NONE : least;
    }

    int free(int d) {
        if (!is(d, 1, 10)) return OUTSIDE;
        for (int ab = 11; ab <= 66; ab++) {
            Tugs tugs = new Tugs(ab / 10, ab % 10);
            boolean isFree = is(tugs.b, 1, 6);
            for (Tugs other : signs) isFree = isFree && (other == null || tugs.apart(other) >= d);
            if (isFree) return ab;
        }
        return NONE;
    }

    // ---- 5 the log

    int entry(int minute, int man, int where) {
        if (!is(man, 0, 5)) return UNKNOWN;
        if (!is(minute, 0, 1000) || !is(where, 0, 2)) return OUTSIDE;
        if (entries.size() == 40) return FULL;
        for (Entry e : entries) {
            if (e.minute > minute || e.minute == minute && e.man == man) return NO;
        }
        entries.add(new Entry(minute, man, where));
        return entries.size() - 1;
    }

    int log(int man, int what) {
        if (!is(man, 0, 5)) return UNKNOWN;
        int count = 0;
        for (Entry e : entries) count += e.man == man ? 1 : 0;
        String kinds = kinds(man);
        int longestSure = longestRow(kinds, "S");
        int longestMaybe = longestRow(kinds, "SD");
        int verdict = longestSure > stay ? 2 : longestMaybe > stay ? 1 : 0;
        int[] told = {count, longestSure, longestMaybe, verdict, countOf(kinds, 'S'), countOf(kinds, 'D')};
        return is(what, 0, 5) ? told[what] : OUTSIDE;
    }

    /** A sign for each minute from 0 to 1000: S sure, D dark, - neither. */
    private String kinds(int man) {
        StringBuilder kinds = new StringBuilder();
        for (int at = 0; at <= 1000; at++) {
            Entry ahead = null;
            Entry now = null;
            Entry behind = null;
            for (Entry e : entries) {
                if (e.man != man) continue;
                if (e.minute < at) ahead = e;
                if (e.minute == at) now = e;
                if (e.minute > at && behind == null) behind = e;
            }
            boolean between = now == null && ahead != null && behind != null;
            boolean sure = now != null ? now.where == 2 : between && ahead.where == 2 && behind.where == 2;
            kinds.append(sure ? 'S' : between ? 'D' : '-');
        }
        return kinds.toString();
    }

    private static int longestRow(String kinds, String among) {
        int longest = 0;
        int row = 0;
        for (int i = 0; i < kinds.length(); i++) {
            row = among.indexOf(kinds.charAt(i)) >= 0 ? row + 1 : 0;
            longest = Math.max(longest, row);
        }
        return longest;
    }

    private static int countOf(String kinds, char kind) {
        int n = 0;
        for (int i = 0; i < kinds.length(); i++) n += kinds.charAt(i) == kind ? 1 : 0;
        return n;
    }

    int told(int what) {
        int bits = 0;
        int worth = 0;
        for (Thing t : things) {
            if (!t.isRaised()) continue;
            bits |= 1 << t.number;
            worth += t.worth;
        }
        int signsTold = 0;
        for (Tugs tugs : signs) signsTold += tugs == null ? 0 : 1;
        int[] told = {minute, bellSquare, (int) air.depth, things.size(), bits, tides.size(), signsTold, entries.size(),
            row.size(), worth};
        return is(what, 0, 9) ? told[what] : OUTSIDE;
    }
}
