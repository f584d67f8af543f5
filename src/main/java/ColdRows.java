import java.util.Arrays;

/**
 * Cold rows: racks that warm one another, the cheapest cooling, machines placed, power through
 * feeds that may fail, alarms and their causes, meters some of which are lost, and sheets.
 *
 * <p>Every row is made with the object and used again, so that no call makes anything new.
 */
public final class ColdRows {
    public static final int BAD = -1, STATE = -2, FULL = -3, NONE = -4;

    /** Above every POWER, margin and warmth. */
    private static final int MORE_THAN_ANY = 1000000000;
    private static final int MOST_RACKS = 8, MOST_LOAD = 1000, MOST_SHARE = 200;
    private static final int LEAST_AIR = 10, MOST_AIR = 30, MOST_FAN = 5;
    private static final int MOST_MACHINES = 5;
    private static final int SHEETS = 4, MOST_CELLS = 64;
    private static final int BYTES = 0, INTS = 1, LONGS = 2;
    private static final int NULL_FAULT = -11, INDEX_FAULT = -12, CAST_FAULT = -13, SIZE_FAULT = -14;
    private static final int WRONG_CELL = -20;
    private static final int MOST_FEEDS = 16, MOST_ROOM = 10000, PLUGS = 2;
    private static final int MOST_CAUSES = 10, ALL_ALARMS = 65535;
    private static final int MOST_METERS = 12, MOST_NUMBER = 100000, NOT_KNOWN = 1000000000;

    private final Hall hall = new Hall();
    private final Prices prices = new Prices();
    private final Placer placer = new Placer();
    private final Sheets sheets = new Sheets();
    private final Feeds feeds = new Feeds();
    private final Alarms alarms = new Alarms();
    private final Meters meters = new Meters();

    public ColdRows() {
    }

    // ---- racks, air, sheets

    public int rack(int load, int limit, int mass, int places) {
        boolean asTold = within(load, 0, MOST_LOAD) && within(limit, 10000, 60000)
                && within(mass, 1, 1000) && within(places, 0, 20);
        return asTold ? hall.add(load, limit, mass, places) : BAD;
    }

    public int load(int r, int v) {
        if (!hall.has(r) || !within(v, 0, MOST_LOAD)) {
            return BAD;
        }
        int was = hall.loads[r];
        hall.loads[r] = v;
        return was;
    }

    public int share(int j, int i, int v) {
        if (!hall.has(j) || !hall.has(i) || !within(v, 0, MOST_SHARE)) {
            return BAD;
        }
        int was = hall.shares[j][i];
        hall.shares[j][i] = v;
        return was;
    }

    public int sheet(int k, int lane, int n) {
        if (!sheets.has(k) || !isLane(lane) || n > MOST_CELLS) {
            return BAD;
        }
        if (n < 0) {
            return SIZE_FAULT;
        }
        sheets.renew(k, lane, n);
        return 1;
    }

    public int lay(int k, int i, long v) {
        if (!sheets.has(k)) {
            return BAD;
        }
        if (sheets.isNothing(k)) {
            return NULL_FAULT;
        }
        if (!sheets.hasCell(k, i)) {
            return INDEX_FAULT;
        }
        sheets.cells[k][i] = lowestBits(sheets.lanes[k], v);
        return 1;
    }

    public int draw(int k, int lane, int f) {
        if (!sheets.has(k) || !isLane(lane)) {
            return BAD;
        }
        if (sheets.isNothing(k)) {
            return NULL_FAULT;
        }
        if (sheets.lanes[k] != lane) {
            return CAST_FAULT;
        }
        int refusal = sheets.refusal(k, f, hall.racks * hall.racks);
        if (refusal != 0) {
            return refusal;
        }
        hall.takeShares(sheets.cells[k], f);
        return hall.racks;
    }

    public int set(int air, int fan) {
        if (!isAir(air) || !isFan(fan)) {
            return BAD;
        }
        hall.air = air;
        hall.fan = fan;
        return 1;
    }

    public int price(int air, int v) {
        if (air == 0) {
            return within(v, 0, 100) ? prices.changeWeight(v) : BAD;
        }
        return isAir(air) && within(v, 0, 1000) ? prices.changeAir(air, v) : BAD;
    }

    public int into(int r) {
        return hall.has(r) ? hall.warmth(r, hall.air, hall.fan) : BAD;
    }

    public int hot(int what) {
        switch (what) {
            case 0:
                return hall.countHot();
            case 1:
                return hall.firstHot(hall.air, hall.fan);
            case 2:
                return hall.nearestToLimit();
            default:
                return BAD;
        }
    }

    public int power(int air, int fan) {
        return isAir(air) && isFan(fan) ? prices.powerOf(air, fan, hall.allLoads()) : BAD;
    }

    public int best() {
        int loads = hall.allLoads();
        int least = MORE_THAN_ANY;
        int answer = NONE;
        // The FAN runs outside and only less POWER wins, so of several the least FAN, then AIR, stays.
        for (int fan = 1; fan <= MOST_FAN; fan++) {
            for (int air = LEAST_AIR; air <= MOST_AIR; air++) {
                int power = prices.powerOf(air, fan, loads);
                if (power < least && hall.firstHot(air, fan) == NONE) {
                    least = power;
                    answer = 10 * air + fan;
                }
            }
        }
        return answer;
    }

    public int minutes(int r) {
        if (!hall.has(r)) {
            return BAD;
        }
        int left = hall.margin(r);
        if (left < 0) {
            return 0;
        }
        int rise = divideDown(hall.loads[r] * 1000, hall.masses[r]);
        return rise == 0 ? NONE : divideDown(left, rise) + 1;
    }

    // ---- machines

    public int machine(int load, int places) {
        return within(load, 1, 300) && within(places, 1, 10) ? placer.add(load, places) : BAD;
    }

    public int leave() {
        if (placer.machines == 0) {
            return NONE;
        }
        placer.machines--;
        return placer.machines;
    }

    public int placed(int m) {
        if (m < 0 || m >= placer.machines) {
            return BAD;
        }
        return placer.leastWarmth(hall) == NONE ? NONE : placer.best[m];
    }

    public int warmest() {
        return hall.racks == 0 ? NONE : placer.leastWarmth(hall);
    }

    public int placings() {
        return placer.countAll(hall);
    }

    // ---- power

    public int feed(int above, int room) {
        boolean asTold = (above == NONE || feeds.has(above)) && within(room, 0, MOST_ROOM);
        return asTold ? feeds.add(above, room) : BAD;
    }

    public int plug(int r, int which, int feed) {
        if (!hall.has(r) || !within(which, 0, PLUGS - 1) || (feed != NONE && !feeds.has(feed))) {
            return BAD;
        }
        if (feed != NONE && feeds.plugs[1 - which][r] == feed) {
            return STATE;
        }
        int was = feeds.plugs[which][r];
        feeds.plugs[which][r] = feed;
        return was;
    }

    public int fail(int f, boolean on) {
        if (!feeds.has(f)) {
            return BAD;
        }
        int was = feeds.failed >> f & 1;
        feeds.failed = on ? feeds.failed | 1 << f : feeds.failed & ~(1 << f);
        return was;
    }

    public int through(int f) {
        if (!feeds.has(f)) {
            return BAD;
        }
        feeds.flow(feeds.dead(feeds.failed), hall);
        return feeds.flows[f];
    }

    public int state(int what) {
        int dead = feeds.dead(feeds.failed);
        switch (what) {
            case 0:
                return Integer.bitCount(feeds.over(dead, hall));
            case 1:
                return firstBit(feeds.over(dead, hall));
            case 2:
                return Integer.bitCount(feeds.dark(dead, hall));
            case 3:
                return firstBit(feeds.dark(dead, hall));
            case 4:
                return Integer.bitCount(dead);
            default:
                return BAD;
        }
    }

    public int weak() {
        return feeds.firstWeak(hall);
    }

    // ---- alarms, meters

    public int cause(int alarms) {
        return within(alarms, 1, ALL_ALARMS) ? this.alarms.add(alarms) : BAD;
    }

    public int seen(int alarms) {
        if (!within(alarms, 0, ALL_ALARMS)) {
            return BAD;
        }
        int was = this.alarms.visible;
        this.alarms.visible = alarms;
        return was;
    }

    public int roots() {
        return alarms.fewest();
    }

    public int strange() {
        return alarms.visible & ~alarms.madeBy(alarms.likely());
    }

    public int meter(int above) {
        return above == NONE || meters.has(above) ? meters.add(above) : BAD;
    }

    public int reads(int m, int v) {
        if (!meters.has(m) || !within(v, -MOST_NUMBER, MOST_NUMBER)) {
            return BAD;
        }
        meters.isRead[m] = true;
        meters.readings[m] = v;
        return 1;
    }

    public int loses(int m) {
        if (!meters.has(m)) {
            return BAD;
        }
        int was = meters.isRead[m] ? 1 : 0;
        meters.isRead[m] = false;
        return was;
    }

    public int known(int m) {
        if (!meters.has(m)) {
            return NOT_KNOWN;
        }
        meters.infer();
        return meters.isKnown[m] ? meters.numbers[m] : NOT_KNOWN;
    }

    public int quarrel() {
        meters.infer();
        for (int m = 0; m < meters.meters; m++) {
            if (meters.isAtOdds(m)) {
                return m;
            }
        }
        return NONE;
    }

    public int count(int what) {
        switch (what) {
            case 0:
                return hall.racks;
            case 1:
                return feeds.feeds;
            case 2:
                return placer.machines;
            case 3:
                return alarms.causes;
            case 4:
                return meters.meters;
            case 5:
                return meters.countKnown();
            case 6:
                return sheets.isNothing(0) ? NONE : sheets.sizes[0];
            case 7:
                return hall.air;
            case 8:
                return hall.fan;
            default:
                return BAD;
        }
    }

    // ---- what the parts share

    private static boolean within(int v, int least, int most) {
        return v >= least && v <= most;
    }

    private static boolean isAir(int air) {
        return within(air, LEAST_AIR, MOST_AIR);
    }

    private static boolean isFan(int fan) {
        return within(fan, 1, MOST_FAN);
    }

    private static boolean isLane(int lane) {
        return within(lane, BYTES, LONGS);
    }

    private static long lowestBits(int lane, long v) {
        if (lane == BYTES) {
            return (byte) v;
        }
        return lane == INTS ? (int) v : v;
    }

    /** For values from 0 on. No divisor here is ever below 1; the test keeps a fault from throwing. */
    private static int divideDown(int value, int divisor) {
        return divisor < 1 ? 0 : value / divisor;
    }

    private static int divideUp(int value, int divisor) {
        return divideDown(value + divisor - 1, divisor);
    }

    private static int firstBit(int bits) {
        return bits == 0 ? NONE : Integer.numberOfTrailingZeros(bits);
    }

    /** The RACKS, THE TABLE, THE AIR and THE FAN. */
    private static final class Hall {
        final int[] loads = new int[MOST_RACKS];
        final int[] limits = new int[MOST_RACKS];
        final int[] masses = new int[MOST_RACKS];
        final int[] places = new int[MOST_RACKS];
        /** First the RACK at which, then the RACK of which. */
        final int[][] shares = new int[MOST_RACKS][MOST_RACKS];
        int racks = 0;
        int air = 20;
        int fan = 1;

        boolean has(int r) {
            return r >= 0 && r < racks;
        }

        int add(int load, int limit, int mass, int room) {
            if (racks >= MOST_RACKS) {
                return FULL;
            }
            loads[racks] = load;
            limits[racks] = limit;
            masses[racks] = mass;
            places[racks] = room;
            racks++;
            return racks - 1;
        }

        /** The caller has looked at every CELL that this reads. */
        void takeShares(long[] cells, int from) {
            for (int j = 0; j < racks; j++) {
                for (int i = 0; i < racks; i++) {
                    shares[j][i] = (int) cells[from + racks * j + i];
                }
            }
        }

        int allLoads() {
            int sum = 0;
            for (int r = 0; r < racks; r++) {
                sum += loads[r];
            }
            return sum;
        }

        /** What all RACKS give off at one, ahead of the FAN. */
        int givenAt(int j) {
            int sum = 0;
            for (int i = 0; i < racks; i++) {
                sum += loads[i] * shares[j][i];
            }
            return sum;
        }

        int warmth(int j, int someAir, int someFan) {
            return 1000 * someAir + divideUp(givenAt(j), someFan);
        }

        /** How far a RACK is from its LIMIT; below 0 it is HOT. */
        int margin(int r) {
            return limits[r] - warmth(r, air, fan);
        }

        int countHot() {
            int found = 0;
            for (int r = 0; r < racks; r++) {
                if (margin(r) < 0) {
                    found++;
                }
            }
            return found;
        }

        int firstHot(int someAir, int someFan) {
            for (int r = 0; r < racks; r++) {
                if (warmth(r, someAir, someFan) > limits[r]) {
                    return r;
                }
            }
            return NONE;
        }

        int nearestToLimit() {
            int nearest = NONE;
            int least = MORE_THAN_ANY;
            for (int r = 0; r < racks; r++) {
                int left = margin(r);
                if (left < least) {
                    least = left;
                    nearest = r;
                }
            }
            return nearest;
        }
    }

    /** The PRICES of each AIR and the FAN's WEIGHT. */
    private static final class Prices {
        /** By AIR less LEAST_AIR. */
        final int[] ofAir = new int[MOST_AIR - LEAST_AIR + 1];
        int weight = 10;

        Prices() {
            Arrays.fill(ofAir, 100);
        }

        int changeWeight(int v) {
            int was = weight;
            weight = v;
            return was;
        }

        int changeAir(int air, int v) {
            int was = ofAir[air - LEAST_AIR];
            ofAir[air - LEAST_AIR] = v;
            return was;
        }

        int powerOf(int air, int fan, int loads) {
            int fans = weight * fan * fan * fan;
            return fans + divideUp((fans + loads) * ofAir[air - LEAST_AIR], 1000);
        }
    }

    /** The MACHINES, and the search through all PLACINGS, whose rows are made once. */
    private static final class Placer {
        final int[] loads = new int[MOST_MACHINES];
        final int[] places = new int[MOST_MACHINES];
        int machines = 0;
        /** The RACK of each MACHINE in the best PLACING that the last search found. */
        final int[] best = new int[MOST_MACHINES];
        private final int[] chosen = new int[MOST_MACHINES];
        private final int[] free = new int[MOST_RACKS];
        /** Row m: what is given at each RACK when the MACHINES ahead of m have their RACKS. */
        private final int[][] given = new int[MOST_MACHINES + 1][MOST_RACKS];
        private int least = MORE_THAN_ANY;

        int add(int load, int room) {
            if (machines >= MOST_MACHINES) {
                return FULL;
            }
            loads[machines] = load;
            places[machines] = room;
            machines++;
            return machines - 1;
        }

        int countAll(Hall hall) {
            freeAll(hall);
            return countFrom(hall, 0);
        }

        int leastWarmth(Hall hall) {
            freeAll(hall);
            for (int j = 0; j < hall.racks; j++) {
                given[0][j] = hall.givenAt(j);
            }
            least = MORE_THAN_ANY;
            searchFrom(hall, 0);
            return least == MORE_THAN_ANY ? NONE : least;
        }

        private void freeAll(Hall hall) {
            for (int r = 0; r < hall.racks; r++) {
                free[r] = hall.places[r];
            }
        }

        private int countFrom(Hall hall, int m) {
            if (m >= machines) {
                return 1;
            }
            int found = 0;
            for (int r = 0; r < hall.racks; r++) {
                if (free[r] >= places[m]) {
                    free[r] -= places[m];
                    found += countFrom(hall, m + 1);
                    free[r] += places[m];
                }
            }
            return found;
        }

        private void searchFrom(Hall hall, int m) {
            int warmth = greatest(hall, m);
            // A MACHINE more never cools a RACK, and of equal PLACINGS the one met first is due.
            if (warmth >= least) {
                return;
            }
            if (m >= machines) {
                least = warmth;
                System.arraycopy(chosen, 0, best, 0, MOST_MACHINES);
                return;
            }
            for (int r = 0; r < hall.racks; r++) {
                if (free[r] >= places[m]) {
                    chosen[m] = r;
                    giveOff(hall, m, r);
                    free[r] -= places[m];
                    searchFrom(hall, m + 1);
                    free[r] += places[m];
                }
            }
        }

        private void giveOff(Hall hall, int m, int r) {
            for (int j = 0; j < hall.racks; j++) {
                given[m + 1][j] = given[m][j] + loads[m] * hall.shares[j][r];
            }
        }

        private int greatest(Hall hall, int m) {
            int most = 0;
            for (int j = 0; j < hall.racks; j++) {
                most = Math.max(most, given[m][j]);
            }
            return 1000 * hall.air + divideUp(most, hall.fan);
        }
    }

    /** The SHEETS; every lane's CELLS stand in longs, cut to the lane's bits when they are laid. */
    private static final class Sheets {
        private static final int NOTHING = -1;

        final long[][] cells = new long[SHEETS][MOST_CELLS];
        final int[] lanes = new int[SHEETS];
        final int[] sizes = new int[SHEETS];

        Sheets() {
            Arrays.fill(sizes, NOTHING);
        }

        boolean has(int k) {
            return k >= 0 && k < SHEETS;
        }

        boolean isNothing(int k) {
            return sizes[k] == NOTHING;
        }

        boolean hasCell(int k, int i) {
            return i >= 0 && i < sizes[k];
        }

        void renew(int k, int lane, int size) {
            Arrays.fill(cells[k], 0L);
            lanes[k] = lane;
            sizes[k] = size;
        }

        /** Why so many CELLS from one on are no SHARES: the answer due, or 0 if they are. */
        int refusal(int k, int from, int many) {
            for (int c = 0; c < many; c++) {
                if (!hasCell(k, from + c)) {
                    return INDEX_FAULT;
                }
                long cell = cells[k][from + c];
                if (cell < 0 || cell > MOST_SHARE) {
                    return WRONG_CELL - c;
                }
            }
            return 0;
        }
    }

    /** The FEEDS and the PLUGS; sets of FEEDS and of RACKS are bits by their numbers. */
    private static final class Feeds {
        final int[] aboves = new int[MOST_FEEDS];
        final int[] rooms = new int[MOST_FEEDS];
        /** First which PLUG, then the RACK: the FEED, or NONE. */
        final int[][] plugs = new int[PLUGS][MOST_RACKS];
        /** What goes THROUGH each FEED, as flow() found it. */
        final int[] flows = new int[MOST_FEEDS];
        int feeds = 0;
        int failed = 0;

        Feeds() {
            Arrays.fill(plugs[0], NONE);
            Arrays.fill(plugs[1], NONE);
        }

        boolean has(int f) {
            return f >= 0 && f < feeds;
        }

        int add(int above, int room) {
            if (feeds >= MOST_FEEDS) {
                return FULL;
            }
            aboves[feeds] = above;
            rooms[feeds] = room;
            feeds++;
            return feeds - 1;
        }

        private static boolean isIn(int bits, int f) {
            return f >= 0 && (bits >> f & 1) == 1;
        }

        /** A FEED comes after the one above it, so one pass upwards in numbers is enough. */
        int dead(int failing) {
            int dead = 0;
            for (int f = 0; f < feeds; f++) {
                if (isIn(failing, f) || isIn(dead, aboves[f])) {
                    dead |= 1 << f;
                }
            }
            return dead;
        }

        private boolean gives(int feed, int dead) {
            return has(feed) && !isIn(dead, feed);
        }

        /** All above a FEED that is not DEAD are not DEAD either, so nothing is carried to a DEAD one. */
        void flow(int dead, Hall hall) {
            Arrays.fill(flows, 0);
            for (int r = 0; r < hall.racks; r++) {
                drawFor(r, hall.loads[r], dead);
            }
            for (int f = feeds - 1; f >= 0; f--) {
                if (has(aboves[f])) {
                    flows[aboves[f]] += flows[f];
                }
            }
        }

        private void drawFor(int r, int load, int dead) {
            int first = plugs[0][r];
            int second = plugs[1][r];
            boolean firstGives = gives(first, dead);
            boolean secondGives = gives(second, dead);
            int halfDown = load / 2;
            if (firstGives) {
                flows[first] += secondGives ? load - halfDown : load;
            }
            if (secondGives) {
                flows[second] += firstGives ? halfDown : load;
            }
        }

        int over(int dead, Hall hall) {
            flow(dead, hall);
            int over = 0;
            for (int f = 0; f < feeds; f++) {
                if (flows[f] > rooms[f]) {
                    over |= 1 << f;
                }
            }
            return over;
        }

        int dark(int dead, Hall hall) {
            int dark = 0;
            for (int r = 0; r < hall.racks; r++) {
                if (!gives(plugs[0][r], dead) && !gives(plugs[1][r], dead)) {
                    dark |= 1 << r;
                }
            }
            return dark;
        }

        /** One that has FAILED changes nothing by failing again, so it needs no test of its own. */
        int firstWeak(Hall hall) {
            int deadNow = dead(failed);
            int overNow = over(deadNow, hall);
            int darkNow = dark(deadNow, hall);
            for (int f = 0; f < feeds; f++) {
                int deadThen = dead(failed | 1 << f);
                boolean moreOver = (over(deadThen, hall) & ~overNow) != 0;
                boolean moreDark = (dark(deadThen, hall) & ~darkNow) != 0;
                if (moreOver || moreDark) {
                    return f;
                }
            }
            return NONE;
        }
    }

    /** The ALARMS that are SEEN and the CAUSES; sets of either are bits. */
    private static final class Alarms {
        final int[] makes = new int[MOST_CAUSES];
        int causes = 0;
        int visible = 0;

        int add(int bits) {
            if (causes >= MOST_CAUSES) {
                return FULL;
            }
            makes[causes] = bits;
            causes++;
            return causes - 1;
        }

        /** The CAUSES that make SEEN ALARMS alone. */
        int likely() {
            int set = 0;
            for (int c = 0; c < causes; c++) {
                if ((makes[c] & ~visible) == 0) {
                    set |= 1 << c;
                }
            }
            return set;
        }

        int madeBy(int set) {
            int made = 0;
            for (int c = 0; c < causes; c++) {
                if ((set >> c & 1) == 1) {
                    made |= makes[c];
                }
            }
            return made;
        }

        /** Sets are tried from the least number on, and only fewer CAUSES win. */
        int fewest() {
            int likely = likely();
            int least = MOST_CAUSES + 1;
            int answer = NONE;
            for (int set = 0; set < 1 << causes; set++) {
                boolean fewer = Integer.bitCount(set) < least;
                if (fewer && (set & ~likely) == 0 && madeBy(set) == visible) {
                    least = Integer.bitCount(set);
                    answer = set;
                }
            }
            return answer;
        }
    }

    /** The METERS, and what can be known of those that are LOST. */
    private static final class Meters {
        final int[] aboves = new int[MOST_METERS];
        final boolean[] isRead = new boolean[MOST_METERS];
        final int[] readings = new int[MOST_METERS];
        /** These two as infer() found them. */
        final boolean[] isKnown = new boolean[MOST_METERS];
        final int[] numbers = new int[MOST_METERS];
        int meters = 0;

        boolean has(int m) {
            return m >= 0 && m < meters;
        }

        int add(int above) {
            if (meters >= MOST_METERS) {
                return FULL;
            }
            aboves[meters] = above;
            meters++;
            return meters - 1;
        }

        void infer() {
            for (int m = 0; m < meters; m++) {
                isKnown[m] = isRead[m];
                numbers[m] = readings[m];
            }
            boolean more = true;
            // Each round but the last makes one METER more KNOWN, so there are at most this many.
            for (int round = 0; more && round <= meters; round++) {
                more = inferOnce();
            }
        }

        private boolean inferOnce() {
            boolean more = false;
            for (int m = 0; m < meters; m++) {
                if (!isKnown[m] && (inferFromBelow(m) || inferFromAbove(m))) {
                    isKnown[m] = true;
                    more = true;
                }
            }
            return more;
        }

        private boolean inferFromBelow(int m) {
            if (!hasUnder(m) || !allKnownUnder(m, NONE)) {
                return false;
            }
            numbers[m] = sumUnder(m, NONE);
            return true;
        }

        private boolean inferFromAbove(int m) {
            int above = aboves[m];
            if (!has(above) || !isKnown[above] || !allKnownUnder(above, m)) {
                return false;
            }
            numbers[m] = numbers[above] - sumUnder(above, m);
            return true;
        }

        private boolean hasUnder(int above) {
            for (int m = above + 1; m < meters; m++) {
                if (aboves[m] == above) {
                    return true;
                }
            }
            return false;
        }

        private boolean allKnownUnder(int above, int except) {
            for (int m = above + 1; m < meters; m++) {
                if (aboves[m] == above && m != except && !isKnown[m]) {
                    return false;
                }
            }
            return true;
        }

        private int sumUnder(int above, int except) {
            int sum = 0;
            for (int m = above + 1; m < meters; m++) {
                if (aboves[m] == above && m != except) {
                    sum += numbers[m];
                }
            }
            return sum;
        }

        boolean isAtOdds(int m) {
            return isKnown[m] && hasUnder(m) && allKnownUnder(m, NONE) && sumUnder(m, NONE) != numbers[m];
        }

        int countKnown() {
            infer();
            int found = 0;
            for (int m = 0; m < meters; m++) {
                if (isKnown[m]) {
                    found++;
                }
            }
            return found;
        }
    }
}
