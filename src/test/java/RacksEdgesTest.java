/** A test for each sentence of promises 1 to 4 and 8 to 14 that names an edge. */
public final class RacksEdgesTest {
    private static final Checks T = new Checks();
    private static final int BAD = -1, FULL = -3, NONE = -4;

    public static void main(String[] args) {
        newObjects();
        racks();
        loadsAndShares();
        settings();
        into();
        hot();
        power();
        best();
        minutes();
        T.covers(1, 4);
        T.covers(8, 14);
        T.end();
    }

    /** RACKS of LOAD 1 and LIMIT 20000: at first what comes INTO each is just its LIMIT. */
    private static ColdRows with(int racks) {
        ColdRows x = new ColdRows();
        for (int r = 0; r < racks; r++) {
            x.rack(1, 20000, 1, 1);
        }
        return x;
    }

    /** One RACK that gives off so much at itself. */
    private static ColdRows giving(int load, int share, int limit) {
        ColdRows x = new ColdRows();
        x.rack(load, limit, 1, 1);
        x.share(0, 0, share);
        return x;
    }

    // ---- promise 1

    private static void newObjects() {
        T.edge(1, "No RACKS", () -> {
            ColdRows x = new ColdRows();
            T.due("count(0)", x.count(0), 0);
            T.due("load(0, 1)", x.load(0, 1), BAD);
            T.due("rack", x.rack(1, 20000, 1, 1), 0);
        });
        T.edge(1, "No FEEDS", () -> {
            ColdRows x = new ColdRows();
            T.due("count(1)", x.count(1), 0);
            T.due("fail(0, true)", x.fail(0, true), BAD);
            T.due("state(4)", x.state(4), 0);
            T.due("feed(0, 1)", x.feed(0, 1), BAD);
            T.due("feed(NONE, 1)", x.feed(NONE, 1), 0);
        });
        T.edge(1, "No MACHINES", () -> {
            ColdRows x = new ColdRows();
            T.due("count(2)", x.count(2), 0);
            T.due("leave()", x.leave(), NONE);
            T.due("placings()", x.placings(), 1);
            T.due("machine(1, 1)", x.machine(1, 1), 0);
        });
        T.edge(1, "No CAUSES", () -> {
            ColdRows x = new ColdRows();
            T.due("count(3)", x.count(3), 0);
            x.seen(1);
            T.due("strange()", x.strange(), 1);
            T.due("cause(1)", x.cause(1), 0);
        });
        T.edge(1, "No METERS", () -> {
            ColdRows x = new ColdRows();
            T.due("count(4)", x.count(4), 0);
            T.due("count(5)", x.count(5), 0);
            T.due("meter(0)", x.meter(0), BAD);
            T.due("meter(NONE)", x.meter(NONE), 0);
        });
        T.edge(1, "SHEETS have nothing", () -> {
            for (int k = 0; k <= 3; k++) {
                ColdRows x = new ColdRows();
                T.due("count(6)", x.count(6), NONE);
                T.due("lay(" + k + ", 0, 0)", x.lay(k, 0, 0), -11);
                T.due("draw(" + k + ", 0, 0)", x.draw(k, 0, 0), -11);
            }
        });
        T.edge(1, "no ALARM is SEEN", () -> {
            T.due("seen(1)", new ColdRows().seen(1), 0);
            T.due("roots()", new ColdRows().roots(), 0);
            T.due("strange()", new ColdRows().strange(), 0);
        });
        T.edge(1, "20 at first, 1 at first", () -> {
            T.due("THE AIR", new ColdRows().count(7), 20);
            T.due("THE FAN", new ColdRows().count(8), 1);
        });
        T.edge(1, "100 at first, 10 at first", () -> {
            ColdRows x = new ColdRows();
            for (int air = 10; air <= 30; air++) {
                T.due("the PRICE of AIR " + air, x.price(air, 0), 100);
            }
            T.due("the WEIGHT", x.price(0, 0), 10);
        });
        T.edge(1, "another object", () -> {
            ColdRows x = with(8);
            x.share(0, 0, 5);
            x.set(30, 5);
            x.seen(3);
            x.sheet(0, 0, 1);
            ColdRows y = with(1);
            T.due("its SHARE", y.share(0, 0, 0), 0);
            T.due("its AIR", y.count(7), 20);
            T.due("its ALARMS", y.seen(0), 0);
            T.due("its SHEET", y.count(6), NONE);
        });
        T.edge(1, "at most 512 calls", RacksEdgesTest::lastCall);
    }

    private static void lastCall() {
        ColdRows x = new ColdRows();
        T.due("call 1", x.rack(0, 60000, 1, 1), 0);
        for (int call = 2; call <= 511; call++) {
            T.due("call " + call, x.load(0, call), call == 2 ? 0 : call - 1);
        }
        T.due("call 512", x.load(0, 0), 511);
    }

    // ---- promise 2

    private static void racks() {
        T.edge(2, "RACKS (8) are numbered as they come", () -> {
            ColdRows x = new ColdRows();
            for (int r = 0; r < 8; r++) {
                T.due("RACK " + r, x.rack(1, 20000, 1, 1), r);
                T.due("count(0)", x.count(0), r + 1);
            }
        });
        T.edge(2, "a LOAD (0 to 1000)", () -> {
            T.range(v -> new ColdRows().rack(v, 20000, 1, 1), 0, 1000, 0);
            ColdRows x = new ColdRows();
            x.rack(0, 20000, 1, 1);
            x.rack(1000, 20000, 1, 1);
            T.due("the least is kept", x.load(0, 1), 0);
            T.due("the most is kept", x.load(1, 1), 1000);
        });
        T.edge(2, "a LIMIT (10000 to 60000)", () -> {
            T.range(v -> new ColdRows().rack(1, v, 1, 1), 10000, 60000, 0);
            ColdRows x = giving(1, 0, 10000);
            x.set(10, 1);
            T.due("10000 is within the least", x.hot(0), 0);
            x.share(0, 0, 1);
            T.due("10001 is not", x.hot(0), 1);
            ColdRows y = giving(200, 200, 60000);
            T.due("60000 is within the most", y.hot(0), 0);
            y.load(0, 201);
            T.due("60200 is not", y.hot(0), 1);
        });
        T.edge(2, "a MASS (1 to 1000)", () -> {
            T.range(v -> new ColdRows().rack(1, 20000, v, 1), 1, 1000, 0);
            ColdRows x = new ColdRows();
            x.rack(1, 20999, 1, 1);
            x.rack(1, 20999, 1000, 1);
            T.due("1000 a minute by the least", x.minutes(0), 1);
            T.due("1 a minute by the most", x.minutes(1), 1000);
        });
        T.edge(2, "PLACES (0 to 20)", () -> {
            T.range(v -> new ColdRows().rack(1, 20000, 1, v), 0, 20, 0);
            ColdRows x = new ColdRows();
            x.rack(1, 20000, 1, 0);
            x.machine(1, 1);
            T.due("none takes nothing", x.placings(), 0);
            x.rack(1, 20000, 1, 20);
            x.leave();
            x.machine(1, 10);
            x.machine(1, 10);
            T.due("20 take two of 10", x.placings(), 1);
            x.machine(1, 1);
            T.due("and no more", x.placings(), 0);
        });
        T.edge(2, "FULL", () -> {
            ColdRows x = with(8);
            T.due("a ninth", x.rack(5, 30000, 5, 5), FULL);
            T.due("still", x.rack(1, 20000, 1, 1), FULL);
            T.due("there are 8", x.count(0), 8);
            T.due("the last has its LOAD", x.load(7, 1), 1);
            T.due("no ninth", x.load(8, 1), BAD);
        });
        T.edge(2, "BAD; FULL: the first that fits", () -> {
            ColdRows x = with(8);
            T.due("LOAD", x.rack(1001, 20000, 1, 1), BAD);
            T.due("LIMIT", x.rack(1, 9999, 1, 1), BAD);
            T.due("MASS", x.rack(1, 20000, 0, 1), BAD);
            T.due("PLACES", x.rack(1, 20000, 1, 21), BAD);
        });
        T.edge(2, "BAD: refused, it changes nothing", () -> {
            ColdRows x = with(1);
            x.rack(-1, 20000, 1, 1);
            x.rack(1, 60001, 1, 1);
            x.rack(1, 20000, 1001, 1);
            x.rack(1, 20000, 1, -1);
            T.due("count(0)", x.count(0), 1);
            T.due("the next number", x.rack(1, 20000, 1, 1), 1);
        });
    }

    // ---- promises 3 and 4

    private static void loadsAndShares() {
        T.edge(3, "a LOAD (0 to 1000)", () -> {
            T.range(v -> with(1).load(0, v), 0, 1000, 1);
            ColdRows x = with(1);
            x.load(0, 1000);
            T.due("the most was", x.load(0, 0), 1000);
            T.due("the least was", x.load(0, 1), 0);
        });
        T.edge(3, "there is no such RACK", () -> {
            T.range(r -> with(3).load(r, 5), 0, 2, 1);
            T.due("no RACKS", new ColdRows().load(0, 5), BAD);
            T.due("behind 8", with(8).load(8, 5), BAD);
            T.due("the last of 8", with(8).load(7, 5), 1);
        });
        T.edge(3, "BAD: refused, it changes nothing", () -> {
            ColdRows x = with(2);
            x.load(0, 1001);
            x.load(0, -1);
            x.load(2, 9);
            x.load(-1, 9);
            T.due("load(0, 1)", x.load(0, 1), 1);
            T.due("load(1, 1)", x.load(1, 1), 1);
        });
        T.edge(4, "a SHARE (0 to 200)", () -> {
            T.range(v -> with(1).share(0, 0, v), 0, 200, 0);
            ColdRows x = with(1);
            x.share(0, 0, 200);
            T.due("the most was", x.share(0, 0, 0), 200);
            T.due("the least was", x.share(0, 0, 1), 0);
        });
        T.edge(4, "0 at first, for each RACK at each RACK", () -> {
            ColdRows x = with(8);
            for (int j = 0; j < 8; j++) {
                for (int i = 0; i < 8; i++) {
                    T.due("of " + i + " at " + j, x.share(j, i, 1 + 8 * j + i), 0);
                }
            }
            for (int j = 0; j < 8; j++) {
                for (int i = 0; i < 8; i++) {
                    T.due("of " + i + " at " + j, x.share(j, i, 0), 1 + 8 * j + i);
                }
            }
        });
        T.edge(4, "of RACK i at RACK j", () -> {
            ColdRows x = with(2);
            x.load(1, 10);
            x.share(0, 1, 7);
            T.due("at 0 of 1", x.into(0), 20070);
            T.due("not at 1 of 0", x.into(1), 20000);
            x.share(1, 1, 2);
            T.due("at itself", x.into(1), 20020);
        });
        T.edge(4, "there is no such RACK", () -> {
            T.range(j -> with(3).share(j, 0, 5), 0, 2, 0);
            T.range(i -> with(3).share(0, i, 5), 0, 2, 0);
            T.due("no RACKS", new ColdRows().share(0, 0, 5), BAD);
            T.due("behind 8, j", with(8).share(8, 0, 5), BAD);
            T.due("behind 8, i", with(8).share(0, 8, 5), BAD);
        });
        T.edge(4, "BAD: refused, it changes nothing", () -> {
            ColdRows x = with(2);
            x.share(0, 1, 7);
            x.share(0, 1, 201);
            x.share(0, 1, -1);
            x.share(0, 2, 9);
            x.share(2, 1, 9);
            T.due("of 1 at 0", x.share(0, 1, 0), 7);
            T.due("of 0 at 1", x.share(1, 0, 0), 0);
            x.rack(1, 20000, 1, 1);
            T.due("of 2 at 0", x.share(0, 2, 0), 0);
            T.due("of 1 at 2", x.share(2, 1, 0), 0);
        });
    }

    // ---- promises 8 and 9

    private static void settings() {
        T.edge(8, "THE AIR is 10 to 30", () -> {
            T.range(v -> new ColdRows().set(v, 1), 10, 30, 1);
            ColdRows x = with(1);
            x.set(10, 1);
            T.due("INTO by the least", x.into(0), 10000);
            x.set(30, 1);
            T.due("INTO by the most", x.into(0), 30000);
        });
        T.edge(8, "THE FAN 1 to 5", () -> {
            T.range(v -> new ColdRows().set(20, v), 1, 5, 1);
            ColdRows x = giving(10, 1, 20000);
            x.set(20, 1);
            T.due("INTO by the least", x.into(0), 20010);
            x.set(20, 5);
            T.due("INTO by the most", x.into(0), 20002);
        });
        T.edge(8, "BAD: refused, it changes nothing", () -> {
            ColdRows x = new ColdRows();
            x.set(11, 2);
            x.set(12, 0);
            x.set(12, 6);
            T.due("the AIR, the FAN being wrong", x.count(7), 11);
            x.set(9, 3);
            x.set(31, 3);
            T.due("the FAN, the AIR being wrong", x.count(8), 2);
        });
        T.edge(9, "of an AIR (10 to 30)", () -> {
            T.range(air -> new ColdRows().price(air, 5), 10, 30, 100);
            T.due("1 is none", new ColdRows().price(1, 5), BAD);
            T.due("-1 is none", new ColdRows().price(-1, 5), BAD);
            ColdRows x = new ColdRows();
            for (int air = 10; air <= 30; air++) {
                x.price(air, air);
            }
            for (int air = 10; air <= 30; air++) {
                T.due("each has its own: " + air, x.price(air, 0), air);
            }
            T.due("none is the WEIGHT", x.price(0, 0), 10);
        });
        T.edge(9, "for each AIR 0 to 1000", () -> {
            T.range(v -> new ColdRows().price(20, v), 0, 1000, 100);
            ColdRows x = new ColdRows();
            x.price(20, 1000);
            T.due("the most was", x.price(20, 0), 1000);
            T.due("the least was", x.price(20, 1), 0);
        });
        T.edge(9, "(air 0) a WEIGHT (0 to 100)", () -> {
            T.range(v -> new ColdRows().price(0, v), 0, 100, 10);
            ColdRows x = new ColdRows();
            x.price(0, 100);
            T.due("the most was", x.price(0, 0), 100);
            T.due("the least was", x.price(0, 1), 0);
        });
        T.edge(9, "BAD: refused, it changes nothing", () -> {
            ColdRows x = new ColdRows();
            x.price(10, 1001);
            x.price(30, -1);
            x.price(0, 101);
            x.price(0, -1);
            x.price(9, 7);
            x.price(31, 7);
            T.due("price(10, 1)", x.price(10, 1), 100);
            T.due("price(30, 1)", x.price(30, 1), 100);
            T.due("price(0, 1)", x.price(0, 1), 10);
        });
    }

    // ---- promise 10

    private static void into() {
        T.edge(10, "divided by THE FAN, up to a whole number", () -> {
            for (int fan = 1; fan <= 5; fan++) {
                for (int sum = 0; sum <= 11; sum++) {
                    ColdRows x = giving(sum, 1, 20000);
                    x.set(20, fan);
                    int up = sum / fan + (sum % fan == 0 ? 0 : 1);
                    T.due(sum + " by " + fan, x.into(0), 20000 + up);
                }
            }
        });
        T.edge(10, "the sum of all i, that divided", () -> {
            ColdRows x = with(5);
            for (int i = 0; i < 5; i++) {
                x.share(4, i, 1);
            }
            x.set(20, 5);
            T.due("5 by 5, not five times 1 by 5 up", x.into(4), 20001);
            x.set(11, 5);
            T.due("the AIR is not divided", x.into(4), 11001);
        });
        T.edge(10, "of i at j", () -> {
            ColdRows x = with(2);
            x.load(0, 10);
            x.share(0, 1, 3);
            T.due("LOAD of 1 at 0", x.into(0), 20003);
            T.due("nothing at 1", x.into(1), 20000);
        });
        T.edge(10, "the most of all", () -> {
            ColdRows x = new ColdRows();
            for (int r = 0; r < 8; r++) {
                x.rack(1000, 60000, 1, 1);
            }
            for (int i = 0; i < 8; i++) {
                x.share(7, i, 200);
            }
            x.set(30, 1);
            T.due("into(7)", x.into(7), 1630000);
        });
        T.edge(10, "there is no such RACK", () -> {
            T.range(r -> with(3).into(r), 0, 2, 20000);
            T.due("no RACKS", new ColdRows().into(0), BAD);
            T.due("behind 8", with(8).into(8), BAD);
        });
    }

    // ---- promise 11

    private static void hot() {
        T.edge(11, "HOT, if that is above its LIMIT", () -> {
            ColdRows x = giving(1, 0, 20000);
            T.due("just the LIMIT, how many", x.hot(0), 0);
            T.due("just the LIMIT, the first one", x.hot(1), NONE);
            x.share(0, 0, 1);
            T.due("1 above, how many", x.hot(0), 1);
            T.due("1 above, the first one", x.hot(1), 0);
        });
        T.edge(11, "How many RACKS are HOT", () -> {
            ColdRows x = with(8);
            for (int r = 7; r >= 0; r--) {
                x.share(r, r, 1);
                T.due("from " + r + " on", x.hot(0), 8 - r);
                T.due("the first one", x.hot(1), r);
            }
        });
        T.edge(11, "the first one (1; NONE)", () -> {
            T.due("no RACKS", new ColdRows().hot(1), NONE);
            T.due("none HOT", with(8).hot(1), NONE);
            ColdRows x = with(8);
            x.share(7, 0, 1);
            T.due("the last", x.hot(1), 7);
            x.share(3, 0, 1);
            T.due("the first of two, though others come ahead", x.hot(1), 3);
        });
        T.edge(11, "the least of several", () -> {
            ColdRows x = with(3);
            T.due("all the same", x.hot(2), 0);
            x.share(1, 0, 1);
            x.share(2, 0, 1);
            T.due("1 and 2 the same", x.hot(2), 1);
            x.share(2, 0, 2);
            T.due("2 is nearer", x.hot(2), 2);
        });
        T.edge(11, "LIMIT less what comes INTO it is least", () -> {
            ColdRows x = new ColdRows();
            x.rack(1, 30000, 1, 1);
            x.rack(1, 60000, 1, 1);
            x.rack(1, 29999, 1, 1);
            T.due("none is HOT, but one is nearest", x.hot(2), 2);
            x.share(1, 1, 200);
            x.load(1, 200);
            T.due("60000 INTO 60000: none is left", x.hot(2), 1);
            x.share(0, 1, 50);
            T.due("0 as near: the least", x.hot(2), 0);
            x.share(1, 0, 1);
            T.due("1 is above by 1", x.hot(2), 1);
        });
        T.edge(11, "NONE: no RACKS", () -> {
            T.due("hot(2)", new ColdRows().hot(2), NONE);
            T.due("hot(0)", new ColdRows().hot(0), 0);
            T.due("one RACK", with(1).hot(2), 0);
        });
        T.edge(11, "what 0, 1, 2. BAD", () -> {
            T.outside(what -> with(1).hot(what), 0, 2, BAD);
            T.outside(what -> new ColdRows().hot(what), 0, 2, BAD);
        });
    }

    // ---- promise 12

    private static void power() {
        T.edge(12, "of an AIR and a FAN. BAD", () -> {
            T.range(air -> new ColdRows().power(air, 1), 10, 30, 11);
            T.outside(fan -> new ColdRows().power(20, fan), 1, 5, BAD);
            T.due("AIR 0 is the WEIGHT's", new ColdRows().power(0, 1), BAD);
        });
        T.edge(12, "the FAN three times (f f f)", () -> {
            int[] due = {10, 80, 270, 640, 1250};
            for (int fan = 1; fan <= 5; fan++) {
                ColdRows x = new ColdRows();
                x.price(20, 0);
                T.due("power(20, " + fan + ")", x.power(20, fan), due[fan - 1]);
            }
        });
        T.edge(12, "divided by 1000, up to a whole number", () -> {
            ColdRows x = new ColdRows();
            x.price(0, 0);
            x.rack(999, 20000, 1, 1);
            x.price(20, 1);
            T.due("999 by 1000", x.power(20, 1), 1);
            x.load(0, 1000);
            T.due("1000 by 1000", x.power(20, 1), 1);
            x.rack(1, 20000, 1, 1);
            T.due("1001 by 1000", x.power(20, 1), 2);
            x.load(0, 0);
            x.load(1, 0);
            T.due("0 by 1000", x.power(20, 1), 0);
        });
        T.edge(12, "the sum of that and all LOADS, times the PRICE", () -> {
            ColdRows x = new ColdRows();
            x.rack(500, 20000, 1, 1);
            x.rack(490, 20000, 1, 1);
            x.price(20, 1000);
            T.due("10 and 10 with 990", x.power(20, 1), 1010);
            x.price(20, 0);
            T.due("PRICE 0: the FAN's alone", x.power(20, 1), 10);
            T.due("another AIR's is 100", x.power(21, 1), 110);
        });
        T.edge(12, "the most of all", () -> {
            ColdRows x = new ColdRows();
            for (int r = 0; r < 8; r++) {
                x.rack(1000, 20000, 1, 1);
            }
            x.price(0, 100);
            x.price(30, 1000);
            T.due("power(30, 5)", x.power(30, 5), 33000);
        });
        T.edge(12, "an AIR and a FAN, not THE AIR and THE FAN", () -> {
            ColdRows x = new ColdRows();
            x.set(30, 5);
            x.price(30, 1000);
            T.due("power(20, 1)", x.power(20, 1), 11);
            T.due("the AIR stays", x.count(7), 30);
            T.due("the FAN stays", x.count(8), 5);
        });
    }

    // ---- promise 13

    private static void best() {
        T.edge(13, "by which none is HOT", () -> {
            ColdRows x = giving(1000, 2, 10400);
            T.due("2000 by 5 at AIR 10 is just the LIMIT", x.best(), 105);
            x.rack(1, 20000, 1, 1);
            x.share(0, 1, 1);
            T.due("2001 by 5 is above", x.best(), NONE);
        });
        T.edge(13, "NONE", () -> {
            ColdRows x = giving(1, 5, 10000);
            T.due("all are above", x.best(), NONE);
            x.share(0, 0, 0);
            T.due("AIR 10 alone", x.best(), 101);
        });
        T.edge(13, "one of several RACKS is HOT", () -> {
            ColdRows x = with(7);
            x.rack(1, 11000, 1, 1);
            x.price(30, 0);
            x.price(12, 0);
            x.price(11, 1);
            T.due("the last RACK rules", x.best(), 111);
        });
        T.edge(13, "the AIR (10 to 30)", () -> {
            ColdRows x = new ColdRows();
            x.rack(1000, 60000, 1, 1);
            for (int air = 10; air <= 30; air++) {
                x.price(air, 0);
                T.due("the cheapest AIR", x.best(), 10 * air + 1);
                x.price(air, 100);
            }
        });
        T.edge(13, "the FAN (1 to 5)", () -> {
            int[] limits = {11000, 10500, 10334, 10250, 10200};
            for (int fan = 1; fan <= 5; fan++) {
                ColdRows x = giving(1000, 1, limits[fan - 1]);
                x.price(0, fan == 1 ? 10 : 0);
                T.due("1000 by " + fan, x.best(), 100 + fan);
            }
        });
        T.edge(13, "of several the least FAN, then the least AIR", () -> {
            ColdRows x = giving(100, 40, 12000);
            x.price(0, 0);
            for (int air = 10; air <= 30; air++) {
                x.price(air, air == 10 || air == 11 ? 50 : 60);
            }
            T.due("FAN 2 at AIR 10, FAN 4 at AIR 11 the same", x.best(), 102);
            x.price(10, 60);
            T.due("FAN 4 at AIR 11 is less", x.best(), 114);
            ColdRows y = giving(100, 0, 30000);
            y.price(0, 0);
            T.due("all are the same", y.best(), 101);
            y.price(10, 200);
            T.due("the least AIR of the rest", y.best(), 111);
            y.share(0, 0, 1);
            y.price(30, 0);
            y.price(29, 10);
            T.due("30000 and 100 by any FAN is above, AIR 29 is not", y.best(), 291);
        });
        T.edge(13, "of several the least FAN", () -> {
            ColdRows x = giving(100, 10, 13000);
            x.price(0, 0);
            for (int air = 10; air <= 30; air++) {
                x.price(air, air == 12 ? 10 : 90);
            }
            T.due("FAN 1 at AIR 12: 13000", x.best(), 121);
            x.share(0, 0, 11);
            T.due("FAN 1 is above there", x.best(), 122);
            x.price(11, 10);
            T.due("FAN 1 at AIR 11 is the same as FAN 2 at AIR 12", x.best(), 111);
        });
        T.edge(13, "no RACKS, none is HOT", () -> {
            T.due("best()", new ColdRows().best(), 101);
            ColdRows x = new ColdRows();
            x.price(30, 0);
            T.due("the cheaper AIR", x.best(), 301);
        });
        T.edge(13, "it changes nothing", () -> {
            ColdRows x = giving(1, 1, 20000);
            x.best();
            T.due("the AIR", x.count(7), 20);
            T.due("the FAN", x.count(8), 1);
            T.due("into(0)", x.into(0), 20001);
        });
    }

    // ---- promise 14

    private static void minutes() {
        T.edge(14, "(0: it is)", () -> {
            ColdRows x = giving(1, 1, 20000);
            T.due("1 above", x.minutes(0), 0);
            x.load(0, 0);
            T.due("at the LIMIT it is not, and rises by 0", x.minutes(0), NONE);
            x.set(21, 1);
            T.due("it is, though it rises by 0", x.minutes(0), 0);
        });
        T.edge(14, "in how many minutes a RACK is HOT", () -> {
            int[] limits = {20000, 20001, 20999, 21000, 21001, 21999, 22000};
            int[] due = {1, 1, 1, 2, 2, 2, 3};
            for (int n = 0; n < limits.length; n++) {
                T.due("LIMIT " + limits[n] + " by 1000", giving(1, 0, limits[n]).minutes(0), due[n]);
            }
        });
        T.edge(14, "LOAD times 1000 divided by its MASS (down to a whole number)", () -> {
            ColdRows x = new ColdRows();
            x.rack(1, 20002, 501, 1);
            x.rack(1, 20003, 334, 1);
            x.rack(1, 20003, 333, 1);
            x.rack(999, 20999, 1000, 1);
            x.rack(3, 20427, 7, 1);
            T.due("1000 by 501 is 1", x.minutes(0), 3);
            T.due("1000 by 334 is 2", x.minutes(1), 2);
            T.due("1000 by 333 is 3", x.minutes(2), 2);
            T.due("999000 by 1000 is 999", x.minutes(3), 2);
            T.due("3000 by 7 is 428, not 3 times 142", x.minutes(4), 1);
            x.load(3, 1000);
            T.due("1000000 by 1000 is 1000", x.minutes(3), 1);
        });
        T.edge(14, "the most of all", () -> {
            ColdRows x = new ColdRows();
            x.rack(1, 60000, 1000, 1);
            x.rack(1000, 60000, 1, 1);
            x.set(10, 1);
            T.due("50000 by 1", x.minutes(0), 50001);
            T.due("50000 by 1000000", x.minutes(1), 1);
        });
        T.edge(14, "what comes INTO a RACK rises", () -> {
            ColdRows x = giving(10, 100, 30000);
            T.due("from 21000 by 10000", x.minutes(0), 1);
            x.load(0, 1);
            T.due("from 20100 by 1000", x.minutes(0), 10);
            x.set(20, 5);
            T.due("from 20020 by 1000", x.minutes(0), 10);
            x.share(0, 0, 0);
            T.due("from 20000 by 1000", x.minutes(0), 11);
        });
        T.edge(14, "NONE: never (it rises by 0)", () -> {
            ColdRows x = giving(0, 0, 60000);
            T.due("LOAD 0", x.minutes(0), NONE);
            x.load(0, 1);
            T.due("LOAD 1 by MASS 1", x.minutes(0), 41);
        });
        T.edge(14, "there is no such RACK", () -> {
            T.range(r -> with(3).minutes(r), 0, 2, 1);
            T.due("no RACKS", new ColdRows().minutes(0), BAD);
            T.due("behind 8", with(8).minutes(8), BAD);
        });
    }
}
