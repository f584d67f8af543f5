import java.util.ArrayList;
import java.util.List;
import java.util.function.Supplier;
import java.util.function.ToIntFunction;

/**
 * 'What is refused changes nothing': every call in every way it can be refused, each on an object of
 * its own; what calls tell of it then must be what they tell of one to which it was not made.
 */
public final class RefusalsTest {
    private static final Checks T = new Checks();
    private static final int BAD = -1, STATE = -2, FULL = -3, NONE = -4, NULL = -11, INDEX = -12, CAST = -13, SIZE = -14;
    private static final int RACKS = 3, FEEDS = 4, MACHINES = 3, METERS = 4;
    private static final int LOW = Integer.MIN_VALUE, HIGH = Integer.MAX_VALUE;

    public static void main(String[] args) {
        racks();
        sheets();
        airAndPrices();
        placings();
        power();
        alarmsAndMeters();
        whenFull();
        T.end();
    }

    private static ColdRows some() {
        ColdRows x = new ColdRows();
        for (int r = 0; r < RACKS; r++) {
            x.rack(100 + r, 21000 + r, 7 + r, 4 + r);
            x.share(r, r, 3 + r);
            x.share(r, 0, 9);
        }
        for (int m = 0; m < MACHINES; m++) {
            x.machine(10 + m, 2 + m);
        }
        for (int f = 0; f < FEEDS; f++) {
            x.feed(f < 2 ? NONE : f - 2, 100);
        }
        x.plug(0, 0, 2);
        x.plug(0, 1, 3);
        x.plug(1, 0, 1);
        x.fail(3, true);
        x.cause(1);
        x.cause(6);
        x.seen(15);
        for (int m = 0; m < METERS; m++) {
            x.meter(m == 0 ? NONE : 0);
        }
        x.reads(0, 50);
        x.reads(1, 7);
        x.sheet(0, 1, 10);
        x.lay(0, 0, 201);
        x.lay(0, 5, 77);
        x.set(21, 2);
        x.price(0, 9);
        x.price(20, 90);
        return x;
    }

    /** What calls tell. Those that change something put it back, but THE TABLE, which is drawn at the end. */
    private static List<Integer> picture(ColdRows x) {
        List<Integer> told = new ArrayList<>();
        for (int what = 0; what <= 8; what++) {
            told.add(x.count(what));
        }
        racksOf(x, told);
        for (int air = 10; air <= 30; air++) {
            int was = x.price(air, 0);
            told.add(was);
            x.price(air, was);
        }
        int weight = x.price(0, 0);
        told.add(weight);
        x.price(0, weight);
        told.add(x.hot(0));
        told.add(x.hot(2));
        told.add(x.best());
        told.add(x.power(20, 1));
        for (int m = 0; m < MACHINES; m++) {
            told.add(x.placed(m));
        }
        told.add(x.warmest());
        told.add(x.placings());
        feedsOf(x, told);
        told.add(x.roots());
        told.add(x.strange());
        int seen = x.seen(0);
        told.add(seen);
        x.seen(seen);
        metersOf(x, told);
        return told;
    }

    private static void racksOf(ColdRows x, List<Integer> told) {
        for (int r = 0; r < RACKS; r++) {
            told.add(x.into(r));
            told.add(x.minutes(r));
            int load = x.load(r, 0);
            told.add(load);
            x.load(r, load);
            for (int i = 0; i < RACKS; i++) {
                int share = x.share(r, i, 0);
                told.add(share);
                x.share(r, i, share);
            }
            for (int which = 0; which <= 1; which++) {
                int feed = x.plug(r, which, NONE);
                told.add(feed);
                x.plug(r, which, feed);
            }
        }
    }

    private static void feedsOf(ColdRows x, List<Integer> told) {
        for (int f = 0; f < FEEDS; f++) {
            told.add(x.through(f));
            int failed = x.fail(f, false);
            told.add(failed);
            x.fail(f, failed == 1);
        }
        for (int what = 0; what <= 4; what++) {
            told.add(x.state(what));
        }
        told.add(x.weak());
    }

    private static void metersOf(ColdRows x, List<Integer> told) {
        for (int m = 0; m < METERS; m++) {
            int known = x.known(m);
            int read = x.loses(m);
            told.add(known);
            told.add(read);
            if (read == 1) {
                x.reads(m, known);
            }
        }
        told.add(x.quarrel());
        told.add(x.draw(0, 1, 0));
        told.add(x.draw(0, 1, 1));
        for (int i = 0; i < RACKS * RACKS; i++) {
            told.add(x.share(i / RACKS, i % RACKS, 0));
        }
        told.add(x.draw(1, 1, 0));
    }

    private static void refused(String call, int refusal, ToIntFunction<ColdRows> made) {
        refusedOf(RefusalsTest::some, call, refusal, made);
    }

    private static void refusedOf(Supplier<ColdRows> objects, String call, int refusal, ToIntFunction<ColdRows> made) {
        T.part(call);
        ColdRows x = objects.get();
        T.due(call, made.applyAsInt(x), refusal);
        T.isTrue("nothing has changed", picture(x).equals(picture(objects.get())));
    }

    private static void racks() {
        refused("rack, LOAD below", BAD, x -> x.rack(-1, 20000, 1, 1));
        refused("rack, LOAD above", BAD, x -> x.rack(1001, 20000, 1, 1));
        refused("rack, LIMIT below", BAD, x -> x.rack(1, 9999, 1, 1));
        refused("rack, LIMIT above", BAD, x -> x.rack(1, 60001, 1, 1));
        refused("rack, MASS below", BAD, x -> x.rack(1, 20000, 0, 1));
        refused("rack, MASS above", BAD, x -> x.rack(1, 20000, 1001, 1));
        refused("rack, PLACES below", BAD, x -> x.rack(1, 20000, 1, -1));
        refused("rack, PLACES above", BAD, x -> x.rack(1, 20000, 1, 21));
        refused("load, no such RACK", BAD, x -> x.load(3, 5));
        refused("load, RACK below", BAD, x -> x.load(-1, 5));
        refused("load, LOAD below", BAD, x -> x.load(0, -1));
        refused("load, LOAD above", BAD, x -> x.load(0, 1001));
        refused("share, no such j", BAD, x -> x.share(3, 0, 5));
        refused("share, j below", BAD, x -> x.share(-1, 0, 5));
        refused("share, no such i", BAD, x -> x.share(0, 3, 5));
        refused("share, i below", BAD, x -> x.share(0, -1, 5));
        refused("share, SHARE below", BAD, x -> x.share(0, 0, -1));
        refused("share, SHARE above", BAD, x -> x.share(0, 0, 201));
        refused("into, no such RACK", BAD, x -> x.into(3));
        refused("hot, no such what", BAD, x -> x.hot(3));
        refused("minutes, no such RACK", BAD, x -> x.minutes(-1));
    }

    private static void sheets() {
        refused("sheet, no such SHEET", BAD, x -> x.sheet(4, 0, 1));
        refused("sheet, SHEET below", BAD, x -> x.sheet(-1, 0, 1));
        refused("sheet, no such lane", BAD, x -> x.sheet(0, 3, 1));
        refused("sheet, lane below", BAD, x -> x.sheet(0, -1, 1));
        refused("sheet, n above", BAD, x -> x.sheet(0, 0, 65));
        refused("sheet, n below", SIZE, x -> x.sheet(0, 0, -1));
        refused("sheet, n below, of nothing", SIZE, x -> x.sheet(1, 1, LOW));
        refused("lay, no such SHEET", BAD, x -> x.lay(4, 5, 3));
        refused("lay, SHEET below", BAD, x -> x.lay(-1, 5, 3));
        refused("lay, nothing", NULL, x -> x.lay(1, 0, 3));
        refused("lay, behind the last", INDEX, x -> x.lay(0, 10, 3));
        refused("lay, ahead of the first", INDEX, x -> x.lay(0, -1, 3));
        refused("draw, no such SHEET", BAD, x -> x.draw(4, 1, 1));
        refused("draw, no such lane", BAD, x -> x.draw(0, 3, 1));
        refused("draw, nothing", NULL, x -> x.draw(1, 1, 1));
        refused("draw, another lane", CAST, x -> x.draw(0, 0, 1));
        refused("draw, the last CELL is behind all", INDEX, x -> x.draw(0, 1, 2));
        refused("draw, ahead of the first", INDEX, x -> x.draw(0, 1, -1));
        refused("draw, far off", INDEX, x -> x.draw(0, 1, HIGH));
        refused("draw, the first CELL is no SHARE", -20, x -> x.draw(0, 1, 0));
        refused("draw, the last CELL is no SHARE", -28, x -> {
            x.lay(0, 9, -1);
            int answer = x.draw(0, 1, 1);
            x.lay(0, 9, 0);
            return answer;
        });
    }

    private static void airAndPrices() {
        refused("set, AIR below", BAD, x -> x.set(9, 3));
        refused("set, AIR above", BAD, x -> x.set(31, 3));
        refused("set, FAN below", BAD, x -> x.set(25, 0));
        refused("set, FAN above", BAD, x -> x.set(25, 6));
        refused("price, AIR below", BAD, x -> x.price(9, 5));
        refused("price, AIR above", BAD, x -> x.price(31, 5));
        refused("price, AIR below 0", BAD, x -> x.price(-1, 5));
        refused("price, PRICE below", BAD, x -> x.price(20, -1));
        refused("price, PRICE above", BAD, x -> x.price(20, 1001));
        refused("price, WEIGHT below", BAD, x -> x.price(0, -1));
        refused("price, WEIGHT above", BAD, x -> x.price(0, 101));
        refused("power, AIR below", BAD, x -> x.power(9, 1));
        refused("power, FAN above", BAD, x -> x.power(20, 6));
    }

    private static void placings() {
        refused("machine, LOAD below", BAD, x -> x.machine(0, 1));
        refused("machine, LOAD above", BAD, x -> x.machine(301, 1));
        refused("machine, PLACES below", BAD, x -> x.machine(1, 0));
        refused("machine, PLACES above", BAD, x -> x.machine(1, 11));
        refused("placed, no such MACHINE", BAD, x -> x.placed(3));
        refused("placed, MACHINE below", BAD, x -> x.placed(-1));
        T.part("leave, none");
        ColdRows x = new ColdRows();
        T.due("leave()", x.leave(), NONE);
        T.due("count(2)", x.count(2), 0);
        T.due("machine(1, 1)", x.machine(1, 1), 0);
    }

    private static void power() {
        refused("feed, no such above", BAD, x -> x.feed(4, 1));
        refused("feed, above below", BAD, x -> x.feed(-1, 1));
        refused("feed, ROOM below", BAD, x -> x.feed(0, -1));
        refused("feed, ROOM above", BAD, x -> x.feed(0, 10001));
        refused("plug, no such RACK", BAD, x -> x.plug(3, 0, 0));
        refused("plug, RACK below", BAD, x -> x.plug(-1, 0, 0));
        refused("plug, no such PLUG", BAD, x -> x.plug(0, 2, 0));
        refused("plug, PLUG below", BAD, x -> x.plug(0, -1, 0));
        refused("plug, no such FEED", BAD, x -> x.plug(0, 0, 4));
        refused("plug, FEED below", BAD, x -> x.plug(0, 0, -1));
        refused("plug, the second is there", STATE, x -> x.plug(0, 0, 3));
        refused("plug, the first is there", STATE, x -> x.plug(0, 1, 2));
        refused("fail, no such FEED", BAD, x -> x.fail(4, true));
        refused("fail, FEED below", BAD, x -> x.fail(-1, true));
        refused("fail, 32 above FEED 3", BAD, x -> x.fail(35, false));
        refused("through, no such FEED", BAD, x -> x.through(4));
        refused("state, no such what", BAD, x -> x.state(5));
    }

    private static void alarmsAndMeters() {
        refused("cause, none", BAD, x -> x.cause(0));
        refused("cause, above", BAD, x -> x.cause(65536));
        refused("seen, below", BAD, x -> x.seen(-1));
        refused("seen, above", BAD, x -> x.seen(65536));
        refused("meter, no such above", BAD, x -> x.meter(4));
        refused("meter, above below", BAD, x -> x.meter(-1));
        refused("reads, no such METER", BAD, x -> x.reads(4, 1));
        refused("reads, METER below", BAD, x -> x.reads(-1, 1));
        refused("reads, NUMBER below", BAD, x -> x.reads(0, -100001));
        refused("reads, NUMBER above", BAD, x -> x.reads(0, 100001));
        refused("reads, NUMBER above, of a LOST one", BAD, x -> x.reads(2, 100001));
        refused("loses, no such METER", BAD, x -> x.loses(4));
        refused("loses, METER below", BAD, x -> x.loses(-1));
        refused("known, no such METER", 1000000000, x -> x.known(4));
        refused("count, no such what", BAD, x -> x.count(9));
    }

    private static void whenFull() {
        refusedOf(RefusalsTest::full, "rack, FULL", FULL, x -> x.rack(1000, 10000, 1, 20));
        refusedOf(RefusalsTest::full, "machine, FULL", FULL, x -> x.machine(300, 10));
        refusedOf(RefusalsTest::full, "feed, FULL", FULL, x -> x.feed(0, 0));
        refusedOf(RefusalsTest::full, "cause, FULL", FULL, x -> x.cause(8));
        refusedOf(RefusalsTest::full, "meter, FULL", FULL, x -> x.meter(1));
    }

    /** The same with all that there can be. */
    private static ColdRows full() {
        ColdRows x = some();
        for (int r = RACKS; r < 8; r++) {
            x.rack(1, 25000, 1, 1);
        }
        for (int m = MACHINES; m < 5; m++) {
            x.machine(1, 1);
        }
        for (int f = FEEDS; f < 16; f++) {
            x.feed(NONE, 0);
        }
        for (int c = 2; c < 10; c++) {
            x.cause(1);
        }
        for (int m = METERS; m < 12; m++) {
            x.meter(NONE);
        }
        return x;
    }
}
