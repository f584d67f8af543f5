import java.util.ArrayList;
import java.util.HashMap;
import java.util.HashSet;
import java.util.LinkedHashMap;
import java.util.List;
import java.util.Map;
import java.util.Set;

/**
 * The document written a second time, as plainly as the Java library allows and with no thought of
 * speed, so that ColdRows can be set against it. Here the machine itself finds the faults of sheets.
 */
final class Model {
    private static final int BAD = -1, STATE = -2, FULL = -3, NONE = -4;

    private static final class Rack {
        int load, limit, mass, places;
        Integer[] plugs = new Integer[2];
        Map<Rack, Integer> shares = new HashMap<>();
    }

    private static final class Feed {
        Feed above;
        int room;
        boolean failed;
    }

    private static final class Meter {
        Meter above;
        Integer number;
    }

    private final List<Rack> racks = new ArrayList<>();
    private final List<int[]> machines = new ArrayList<>();
    private final List<Feed> feeds = new ArrayList<>();
    private final List<Integer> causes = new ArrayList<>();
    private final List<Meter> meters = new ArrayList<>();
    private final Object[] sheets = new Object[4];
    private final Map<Integer, Integer> prices = new HashMap<>();
    private int weight = 10, air = 20, fan = 1, seen = 0;

    private static boolean in(long v, long a, long b) {
        return a <= v && v <= b;
    }

    private static long up(long v, long by) {
        return v % by == 0 ? v / by : v / by + 1;
    }

    int rack(int load, int limit, int mass, int places) {
        if (!in(load, 0, 1000) || !in(limit, 10000, 60000) || !in(mass, 1, 1000) || !in(places, 0, 20)) {
            return BAD;
        }
        if (racks.size() == 8) {
            return FULL;
        }
        Rack r = new Rack();
        r.load = load;
        r.limit = limit;
        r.mass = mass;
        r.places = places;
        racks.add(r);
        return racks.indexOf(r);
    }

    private boolean isRack(int r) {
        return in(r, 0, racks.size() - 1);
    }

    int load(int r, int v) {
        if (!isRack(r) || !in(v, 0, 1000)) {
            return BAD;
        }
        int was = racks.get(r).load;
        racks.get(r).load = v;
        return was;
    }

    int share(int j, int i, int v) {
        if (!isRack(j) || !isRack(i) || !in(v, 0, 200)) {
            return BAD;
        }
        Integer was = racks.get(j).shares.put(racks.get(i), v);
        return was == null ? 0 : was;
    }

    int sheet(int k, int lane, int n) {
        if (!in(k, 0, 3) || !in(lane, 0, 2) || n > 64) {
            return BAD;
        }
        try {
            sheets[k] = lane == 0 ? new byte[n] : lane == 1 ? new int[n] : new long[n];
            return 1;
        } catch (NegativeArraySizeException e) {
            return -14;
        }
    }

    int lay(int k, int i, long v) {
        if (!in(k, 0, 3)) {
            return BAD;
        }
        try {
            if (sheets[k] instanceof byte[] b) {
                b[i] = (byte) v;
            } else if (sheets[k] instanceof int[] n) {
                n[i] = (int) v;
            } else {
                ((long[]) sheets[k])[i] = v;
            }
            return 1;
        } catch (NullPointerException e) {
            return -11;
        } catch (ArrayIndexOutOfBoundsException e) {
            return -12;
        }
    }

    private static long cell(Object sheet, int lane, int i) {
        return lane == 0 ? ((byte[]) sheet)[i] : lane == 1 ? ((int[]) sheet)[i] : ((long[]) sheet)[i];
    }

    int draw(int k, int lane, int f) {
        if (!in(k, 0, 3) || !in(lane, 0, 2)) {
            return BAD;
        }
        int n = racks.size();
        Class<?> of = lane == 0 ? byte[].class : lane == 1 ? int[].class : long[].class;
        List<Integer> found = new ArrayList<>();
        try {
            of.cast(sheets[k]);
            sheets[k].hashCode();
            for (int c = 0; c < n * n; c++) {
                long v = cell(sheets[k], lane, f + c);
                if (!in(v, 0, 200)) {
                    return -20 - c;
                }
                found.add((int) v);
            }
        } catch (NullPointerException e) {
            return -11;
        } catch (ClassCastException e) {
            return -13;
        } catch (ArrayIndexOutOfBoundsException e) {
            return -12;
        }
        for (int c = 0; c < n * n; c++) {
            racks.get(c / n).shares.put(racks.get(c % n), found.get(c));
        }
        return n;
    }

    int set(int a, int f) {
        if (!in(a, 10, 30) || !in(f, 1, 5)) {
            return BAD;
        }
        air = a;
        fan = f;
        return 1;
    }

    int price(int a, int v) {
        if (a == 0 && in(v, 0, 100)) {
            int was = weight;
            weight = v;
            return was;
        }
        if (in(a, 10, 30) && in(v, 0, 1000)) {
            Integer was = prices.put(a, v);
            return was == null ? 100 : was;
        }
        return BAD;
    }

    /** With some LOADS more, by RACKS' numbers. */
    private int into(int r, int a, int f, int[] more) {
        long sum = 0;
        for (int i = 0; i < racks.size(); i++) {
            sum += (long) (racks.get(i).load + more[i]) * racks.get(r).shares.getOrDefault(racks.get(i), 0);
        }
        return (int) (1000L * a + up(sum, f));
    }

    private int into(int r, int a, int f) {
        return into(r, a, f, new int[8]);
    }

    int into(int r) {
        return isRack(r) ? into(r, air, fan) : BAD;
    }

    private List<Integer> hotOnes(int a, int f) {
        List<Integer> hot = new ArrayList<>();
        for (int r = 0; r < racks.size(); r++) {
            if (into(r, a, f) > racks.get(r).limit) {
                hot.add(r);
            }
        }
        return hot;
    }

    private static int first(List<Integer> list) {
        return list.isEmpty() ? NONE : list.get(0);
    }

    int hot(int what) {
        if (!in(what, 0, 2)) {
            return BAD;
        }
        List<Integer> hot = hotOnes(air, fan);
        if (what < 2) {
            return what == 0 ? hot.size() : first(hot);
        }
        int answer = NONE;
        for (int r = racks.size() - 1; r >= 0; r--) {
            int left = racks.get(r).limit - into(r);
            if (answer == NONE || left <= racks.get(answer).limit - into(answer)) {
                answer = r;
            }
        }
        return answer;
    }

    int power(int a, int f) {
        if (!in(a, 10, 30) || !in(f, 1, 5)) {
            return BAD;
        }
        long fans = (long) weight * f * f * f;
        long loads = 0;
        for (Rack r : racks) {
            loads += r.load;
        }
        return (int) (fans + up((fans + loads) * prices.getOrDefault(a, 100), 1000));
    }

    int best() {
        List<int[]> fit = new ArrayList<>();
        for (int a = 10; a <= 30; a++) {
            for (int f = 1; f <= 5; f++) {
                if (hotOnes(a, f).isEmpty()) {
                    fit.add(new int[] {power(a, f), f, a});
                }
            }
        }
        fit.sort((p, q) -> p[0] != q[0] ? p[0] - q[0] : p[1] != q[1] ? p[1] - q[1] : p[2] - q[2]);
        return fit.isEmpty() ? NONE : 10 * fit.get(0)[2] + fit.get(0)[1];
    }

    int minutes(int r) {
        if (!isRack(r)) {
            return BAD;
        }
        int now = into(r);
        int rise = racks.get(r).load * 1000 / racks.get(r).mass;
        int minute = 0;
        while (now <= racks.get(r).limit) {
            if (rise == 0) {
                return NONE;
            }
            now += rise;
            minute++;
        }
        return minute;
    }

    int machine(int load, int places) {
        if (!in(load, 1, 300) || !in(places, 1, 10)) {
            return BAD;
        }
        if (machines.size() == 5) {
            return FULL;
        }
        machines.add(new int[] {load, places});
        return machines.size() - 1;
    }

    int leave() {
        if (machines.isEmpty()) {
            return NONE;
        }
        machines.remove(machines.size() - 1);
        return machines.size();
    }

    /** All PLACINGS in the order of the RACKS of MACHINE 0, then 1, and so on. */
    private List<int[]> allPlacings() {
        List<int[]> all = new ArrayList<>();
        int n = racks.size();
        int many = 1;
        for (int m = 0; m < machines.size(); m++) {
            many *= n;
        }
        for (int code = 0; code < many; code++) {
            int[] where = new int[machines.size()];
            int[] taken = new int[8];
            int rest = code;
            for (int m = machines.size() - 1; m >= 0; m--) {
                where[m] = rest % n;
                rest /= n;
                taken[where[m]] += machines.get(m)[1];
            }
            boolean fits = true;
            for (int r = 0; r < n; r++) {
                fits &= taken[r] <= racks.get(r).places;
            }
            if (fits) {
                all.add(where);
            }
        }
        return all;
    }

    private int greatest(int[] where) {
        int[] more = new int[8];
        for (int m = 0; m < where.length; m++) {
            more[where[m]] += machines.get(m)[0];
        }
        int most = 0;
        for (int r = 0; r < racks.size(); r++) {
            most = Math.max(most, into(r, air, fan, more));
        }
        return most;
    }

    private int[] bestPlacing() {
        int[] best = null;
        int least = 0;
        for (int[] where : allPlacings()) {
            int most = greatest(where);
            if (best == null || most < least) {
                best = where;
                least = most;
            }
        }
        return best;
    }

    int placed(int m) {
        if (!in(m, 0, machines.size() - 1)) {
            return BAD;
        }
        int[] best = bestPlacing();
        return best == null ? NONE : best[m];
    }

    int warmest() {
        int[] best = bestPlacing();
        return racks.isEmpty() || best == null ? NONE : greatest(best);
    }

    int placings() {
        return allPlacings().size();
    }

    private boolean isFeed(int f) {
        return in(f, 0, feeds.size() - 1);
    }

    int feed(int above, int room) {
        if (above != NONE && !isFeed(above) || !in(room, 0, 10000)) {
            return BAD;
        }
        if (feeds.size() == 16) {
            return FULL;
        }
        Feed f = new Feed();
        f.above = above == NONE ? null : feeds.get(above);
        f.room = room;
        feeds.add(f);
        return feeds.indexOf(f);
    }

    int plug(int r, int which, int feed) {
        if (!isRack(r) || !in(which, 0, 1) || feed != NONE && !isFeed(feed)) {
            return BAD;
        }
        Integer[] plugs = racks.get(r).plugs;
        Integer at = feed == NONE ? null : (Integer) feed;
        if (at != null && at.equals(plugs[which == 0 ? 1 : 0])) {
            return STATE;
        }
        int was = plugs[which] == null ? NONE : plugs[which];
        plugs[which] = at;
        return was;
    }

    int fail(int f, boolean on) {
        if (!isFeed(f)) {
            return BAD;
        }
        int was = feeds.get(f).failed ? 1 : 0;
        feeds.get(f).failed = on;
        return was;
    }

    private static boolean isDead(Feed f) {
        return f != null && (f.failed || isDead(f.above));
    }

    private boolean isLive(Rack r, int which) {
        return r.plugs[which] != null && !isDead(feeds.get(r.plugs[which]));
    }

    private int drawn(Rack r, int which) {
        if (!isLive(r, which)) {
            return 0;
        }
        if (!isLive(r, 1 - which)) {
            return r.load;
        }
        return which == 0 ? (int) up(r.load, 2) : r.load - (int) up(r.load, 2);
    }

    private static boolean isAtOrUnder(Feed f, Feed above) {
        return f != null && (f == above || isAtOrUnder(f.above, above));
    }

    int through(int f) {
        if (!isFeed(f)) {
            return BAD;
        }
        int sum = 0;
        if (!isDead(feeds.get(f))) {
            for (Rack r : racks) {
                for (int which = 0; which < 2; which++) {
                    if (r.plugs[which] != null && isAtOrUnder(feeds.get(r.plugs[which]), feeds.get(f))) {
                        sum += drawn(r, which);
                    }
                }
            }
        }
        return sum;
    }

    private List<Integer> overOnes() {
        List<Integer> over = new ArrayList<>();
        for (int f = 0; f < feeds.size(); f++) {
            if (through(f) > feeds.get(f).room) {
                over.add(f);
            }
        }
        return over;
    }

    private List<Integer> darkOnes() {
        List<Integer> dark = new ArrayList<>();
        for (int r = 0; r < racks.size(); r++) {
            if (!isLive(racks.get(r), 0) && !isLive(racks.get(r), 1)) {
                dark.add(r);
            }
        }
        return dark;
    }

    int state(int what) {
        switch (what) {
            case 0:
                return overOnes().size();
            case 1:
                return first(overOnes());
            case 2:
                return darkOnes().size();
            case 3:
                return first(darkOnes());
            case 4:
                int dead = 0;
                for (Feed f : feeds) {
                    dead += isDead(f) ? 1 : 0;
                }
                return dead;
            default:
                return BAD;
        }
    }

    int weak() {
        List<Integer> over = overOnes();
        List<Integer> dark = darkOnes();
        for (int f = 0; f < feeds.size(); f++) {
            if (feeds.get(f).failed) {
                continue;
            }
            feeds.get(f).failed = true;
            List<Integer> moreOver = overOnes();
            List<Integer> moreDark = darkOnes();
            feeds.get(f).failed = false;
            moreOver.removeAll(over);
            moreDark.removeAll(dark);
            if (!moreOver.isEmpty() || !moreDark.isEmpty()) {
                return f;
            }
        }
        return NONE;
    }

    int cause(int alarms) {
        if (!in(alarms, 1, 65535)) {
            return BAD;
        }
        if (causes.size() == 10) {
            return FULL;
        }
        causes.add(alarms);
        return causes.size() - 1;
    }

    int seen(int alarms) {
        if (!in(alarms, 0, 65535)) {
            return BAD;
        }
        int was = seen;
        seen = alarms;
        return was;
    }

    private static Set<Integer> bits(int number) {
        Set<Integer> bits = new HashSet<>();
        for (int b = 0; b < 16; b++) {
            if ((number & 1 << b) != 0) {
                bits.add(b);
            }
        }
        return bits;
    }

    int roots() {
        int answer = NONE;
        for (int set = (1 << causes.size()) - 1; set >= 0; set--) {
            Set<Integer> made = new HashSet<>();
            for (int c : bits(set)) {
                made.addAll(bits(causes.get(c)));
            }
            boolean few = answer == NONE || bits(set).size() <= bits(answer).size();
            if (few && made.equals(bits(seen))) {
                answer = set;
            }
        }
        return answer;
    }

    int strange() {
        Set<Integer> left = bits(seen);
        for (int c : causes) {
            if (bits(seen).containsAll(bits(c))) {
                left.removeAll(bits(c));
            }
        }
        int answer = 0;
        for (int b : left) {
            answer += 1 << b;
        }
        return answer;
    }

    private boolean isMeter(int m) {
        return in(m, 0, meters.size() - 1);
    }

    int meter(int above) {
        if (above != NONE && !isMeter(above)) {
            return BAD;
        }
        if (meters.size() == 12) {
            return FULL;
        }
        Meter m = new Meter();
        m.above = above == NONE ? null : meters.get(above);
        meters.add(m);
        return meters.indexOf(m);
    }

    int reads(int m, int v) {
        if (!isMeter(m) || !in(v, -100000, 100000)) {
            return BAD;
        }
        meters.get(m).number = v;
        return 1;
    }

    int loses(int m) {
        if (!isMeter(m)) {
            return BAD;
        }
        int was = meters.get(m).number == null ? 0 : 1;
        meters.get(m).number = null;
        return was;
    }

    private List<Meter> rightUnder(Meter above) {
        List<Meter> under = new ArrayList<>();
        for (Meter m : meters) {
            if (above != null && m.above == above) {
                under.add(m);
            }
        }
        return under;
    }

    private static int sum(List<Meter> list, Map<Meter, Integer> known) {
        int sum = 0;
        for (Meter m : list) {
            sum += known.get(m);
        }
        return sum;
    }

    private Map<Meter, Integer> knownOnes() {
        Map<Meter, Integer> known = new LinkedHashMap<>();
        for (Meter m : meters) {
            if (m.number != null) {
                known.put(m, m.number);
            }
        }
        int before;
        do {
            before = known.size();
            for (Meter m : meters) {
                List<Meter> under = rightUnder(m);
                List<Meter> others = rightUnder(m.above);
                others.remove(m);
                if (known.containsKey(m)) {
                    continue;
                }
                if (!under.isEmpty() && known.keySet().containsAll(under)) {
                    known.put(m, sum(under, known));
                } else if (known.containsKey(m.above) && known.keySet().containsAll(others)) {
                    known.put(m, known.get(m.above) - sum(others, known));
                }
            }
        } while (known.size() > before);
        return known;
    }

    int known(int m) {
        return isMeter(m) ? knownOnes().getOrDefault(meters.get(m), 1000000000) : 1000000000;
    }

    int quarrel() {
        Map<Meter, Integer> known = knownOnes();
        for (Meter m : meters) {
            List<Meter> under = rightUnder(m);
            if (known.containsKey(m) && !under.isEmpty() && known.keySet().containsAll(under)
                    && sum(under, known) != known.get(m)) {
                return meters.indexOf(m);
            }
        }
        return NONE;
    }

    int count(int what) {
        int cells = sheets[0] == null ? NONE : java.lang.reflect.Array.getLength(sheets[0]);
        int[] all = {racks.size(), feeds.size(), machines.size(), causes.size(), meters.size(),
            knownOnes().size(), cells, air, fan};
        return in(what, 0, 8) ? all[what] : BAD;
    }
}
