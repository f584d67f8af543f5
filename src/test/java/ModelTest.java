import java.util.Random;

/** Long runs of calls, the same ones in every run of the test, each answer set against Model's. */
public final class ModelTest {
    private static final Checks T = new Checks();
    private static final int NONE = -4, CALLS = 512;
    private static final String[] NAMES = {"rack", "load", "share", "sheet", "lay", "draw", "set", "price",
        "into", "hot", "power", "best", "minutes", "machine", "leave", "placed", "warmest", "placings",
        "feed", "plug", "fail", "through", "state", "weak", "cause", "seen", "roots", "strange",
        "meter", "reads", "loses", "known", "quarrel", "count"};
    /** The first and the last call of each kind of run: all, racks, machines, power, alarms, meters. */
    private static final int[][] KINDS = {{0, 33}, {0, 12}, {13, 17}, {18, 23}, {24, 27}, {28, 33}};

    private final Random random;
    private final ColdRows x = new ColdRows();
    private final Model y = new Model();
    private int made = 0;

    private ModelTest(long seed) {
        random = new Random(seed);
    }

    public static void main(String[] args) {
        for (int seed = 0; seed < 600; seed++) {
            T.part("run " + seed);
            new ModelTest(seed).run(KINDS[seed % KINDS.length], seed % KINDS.length == 2 ? 60 : CALLS);
        }
        T.end();
    }

    private void run(int[] kind, int calls) {
        // A run of one kind is of use only where there are RACKS and SHARES already.
        int racks = kind[0] == 0 ? 0 : random.nextInt(9);
        for (int r = 0; r < racks; r++) {
            call(0);
        }
        for (int s = 0; s < 3 * racks; s++) {
            call(2);
        }
        for (int c = 0; c < calls; c++) {
            int which = kind[0] + random.nextInt(kind[1] - kind[0] + 1);
            // Else all would be FULL soon, and no MACHINE would stay.
            boolean seldom = which == 0 || which == 14 || which == 18 || which == 24 || which == 28;
            if (!seldom || (c < 20 && which != 14) || random.nextInt(10) == 0) {
                call(which);
            }
            if (kind[0] > 0 && random.nextInt(8) == 0) {
                call(random.nextBoolean() ? 1 : kind[0] == 13 ? 6 : 2);
            }
        }
    }

    /** Mostly within, sometimes at an edge or just outside, seldom far off. */
    private int number(int least, int most) {
        int kind = random.nextInt(60);
        if (kind == 0) {
            return random.nextInt();
        }
        if (kind == 1) {
            return random.nextBoolean() ? least - 1 : most + 1;
        }
        if (kind < 8) {
            return random.nextBoolean() ? least : most;
        }
        return most < least ? least : least + random.nextInt(most - least + 1);
    }

    private int orNone(int least, int most) {
        return most < least || random.nextInt(5) == 0 ? NONE : number(least, most);
    }

    private int small(int most) {
        return random.nextInt(3) == 0 ? number(0, most) : number(0, Math.min(most, 12));
    }

    private int last(int what) {
        return y.count(what) - 1;
    }

    private void call(int which) {
        // Nothing is promised behind that many.
        if (made == CALLS) {
            return;
        }
        made++;
        int[] a = arguments(which);
        StringBuilder text = new StringBuilder(NAMES[which]);
        for (int v : a) {
            text.append(' ').append(v);
        }
        T.due(text.toString(), answer(which, a), modelAnswer(which, a));
    }

    private int[] arguments(int which) {
        int rack = number(0, last(0));
        switch (NAMES[which]) {
            case "rack":
                return new int[] {small(1000), number(10000, 60000), number(1, 1000), number(0, 20)};
            case "load":
                return new int[] {rack, small(1000)};
            case "share":
                return new int[] {rack, number(0, last(0)), small(200)};
            case "sheet":
                return new int[] {number(0, 3), number(0, 2), random.nextInt(8) == 0 ? -1 : number(0, 64)};
            case "lay":
                return new int[] {number(0, 3), number(0, 20), random.nextInt(4) == 0 ? random.nextInt() : small(200)};
            case "draw":
                return new int[] {number(0, 3), number(0, 2), small(64)};
            case "set":
            case "power":
                return new int[] {number(10, 30), number(1, 5)};
            case "price":
                return random.nextInt(4) == 0 ? new int[] {0, number(0, 100)} : new int[] {number(10, 30), number(0, 1000)};
            case "hot":
                return new int[] {number(0, 2)};
            case "into":
            case "minutes":
                return new int[] {rack};
            case "machine":
                return new int[] {small(300), number(1, 10)};
            case "placed":
                return new int[] {number(0, last(2))};
            case "feed":
                return new int[] {orNone(0, last(1)), random.nextInt(3) == 0 ? number(0, 10000) : number(0, 900)};
            case "plug":
                return new int[] {rack, number(0, 1), orNone(0, last(1))};
            case "fail":
                return new int[] {number(0, last(1)), random.nextInt(3) == 0 ? 1 : 0};
            case "through":
                return new int[] {number(0, last(1))};
            case "state":
                return new int[] {number(0, 4)};
            case "cause":
                return new int[] {random.nextInt(4) == 0 ? number(1, 65535) : number(1, 63) & number(1, 63)};
            case "seen":
                return new int[] {random.nextInt(4) == 0 ? number(0, 65535) : number(0, 63) | number(0, 63)};
            case "meter":
                return new int[] {orNone(0, last(4))};
            case "reads":
                return new int[] {number(0, last(4)), random.nextInt(4) == 0 ? number(-100000, 100000) : number(-3, 9)};
            case "loses":
            case "known":
                return new int[] {number(0, last(4))};
            case "count":
                return new int[] {number(0, 8)};
            default:
                return new int[0];
        }
    }

    /** A CELL's number with bits above an int's, now and then. */
    private static long wide(int v) {
        return v % 7 == 3 ? v + (1L << 32) : v % 7 == -3 ? v * 3L << 20 : v;
    }

    private int answer(int which, int[] a) {
        switch (NAMES[which]) {
            case "rack":
                return x.rack(a[0], a[1], a[2], a[3]);
            case "load":
                return x.load(a[0], a[1]);
            case "share":
                return x.share(a[0], a[1], a[2]);
            case "sheet":
                return x.sheet(a[0], a[1], a[2]);
            case "lay":
                return x.lay(a[0], a[1], wide(a[2]));
            case "draw":
                return x.draw(a[0], a[1], a[2]);
            case "set":
                return x.set(a[0], a[1]);
            case "price":
                return x.price(a[0], a[1]);
            case "into":
                return x.into(a[0]);
            case "hot":
                return x.hot(a[0]);
            case "power":
                return x.power(a[0], a[1]);
            case "best":
                return x.best();
            case "minutes":
                return x.minutes(a[0]);
            case "machine":
                return x.machine(a[0], a[1]);
            case "leave":
                return x.leave();
            case "placed":
                return x.placed(a[0]);
            case "warmest":
                return x.warmest();
            case "placings":
                return x.placings();
            case "feed":
                return x.feed(a[0], a[1]);
            case "plug":
                return x.plug(a[0], a[1], a[2]);
            case "fail":
                return x.fail(a[0], a[1] == 1);
            case "through":
                return x.through(a[0]);
            case "state":
                return x.state(a[0]);
            case "weak":
                return x.weak();
            case "cause":
                return x.cause(a[0]);
            case "seen":
                return x.seen(a[0]);
            case "roots":
                return x.roots();
            case "strange":
                return x.strange();
            case "meter":
                return x.meter(a[0]);
            case "reads":
                return x.reads(a[0], a[1]);
            case "loses":
                return x.loses(a[0]);
            case "known":
                return x.known(a[0]);
            case "quarrel":
                return x.quarrel();
            case "count":
                return x.count(a[0]);
            default:
                throw new IllegalStateException(NAMES[which]);
        }
    }

    private int modelAnswer(int which, int[] a) {
        switch (NAMES[which]) {
            case "rack":
                return y.rack(a[0], a[1], a[2], a[3]);
            case "load":
                return y.load(a[0], a[1]);
            case "share":
                return y.share(a[0], a[1], a[2]);
            case "sheet":
                return y.sheet(a[0], a[1], a[2]);
            case "lay":
                return y.lay(a[0], a[1], wide(a[2]));
            case "draw":
                return y.draw(a[0], a[1], a[2]);
            case "set":
                return y.set(a[0], a[1]);
            case "price":
                return y.price(a[0], a[1]);
            case "into":
                return y.into(a[0]);
            case "hot":
                return y.hot(a[0]);
            case "power":
                return y.power(a[0], a[1]);
            case "best":
                return y.best();
            case "minutes":
                return y.minutes(a[0]);
            case "machine":
                return y.machine(a[0], a[1]);
            case "leave":
                return y.leave();
            case "placed":
                return y.placed(a[0]);
            case "warmest":
                return y.warmest();
            case "placings":
                return y.placings();
            case "feed":
                return y.feed(a[0], a[1]);
            case "plug":
                return y.plug(a[0], a[1], a[2]);
            case "fail":
                return y.fail(a[0], a[1] == 1);
            case "through":
                return y.through(a[0]);
            case "state":
                return y.state(a[0]);
            case "weak":
                return y.weak();
            case "cause":
                return y.cause(a[0]);
            case "seen":
                return y.seen(a[0]);
            case "roots":
                return y.roots();
            case "strange":
                return y.strange();
            case "meter":
                return y.meter(a[0]);
            case "reads":
                return y.reads(a[0], a[1]);
            case "loses":
                return y.loses(a[0]);
            case "known":
                return y.known(a[0]);
            case "quarrel":
                return y.quarrel();
            case "count":
                return y.count(a[0]);
            default:
                throw new IllegalStateException(NAMES[which]);
        }
    }
}
