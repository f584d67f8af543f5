/** A test for each sentence of promises 20 to 25 that names an edge. */
public final class PowerEdgesTest {
    private static final Checks T = new Checks();
    private static final int BAD = -1, STATE = -2, FULL = -3, NONE = -4;

    public static void main(String[] args) {
        feeds();
        plugs();
        fails();
        through();
        states();
        weak();
        T.covers(20, 25);
        T.end();
    }

    /** FEEDS with all the ROOM there can be, each under the one that is told. */
    private static ColdRows with(int... aboves) {
        ColdRows x = new ColdRows();
        for (int above : aboves) {
            x.feed(above, 10000);
        }
        return x;
    }

    /** Two SOURCES of such ROOMS, and a RACK of such a LOAD with a PLUG at each. */
    private static ColdRows twoWays(int firstRoom, int secondRoom, int load) {
        ColdRows x = new ColdRows();
        x.feed(NONE, firstRoom);
        x.feed(NONE, secondRoom);
        plugged(x, load, 0, 1);
        return x;
    }

    private static void plugged(ColdRows x, int load, int first, int second) {
        int r = x.rack(load, 20000, 1, 1);
        x.plug(r, 0, first);
        x.plug(r, 1, second);
    }

    private static void dueThrough(ColdRows x, String what, int... due) {
        for (int f = 0; f < due.length; f++) {
            T.due(what + ": through(" + f + ")", x.through(f), due[f]);
        }
    }

    private static void dueState(ColdRows x, String what, int... due) {
        for (int s = 0; s < due.length; s++) {
            T.due(what + ": state(" + s + ")", x.state(s), due[s]);
        }
    }

    // ---- promise 20

    private static void feeds() {
        T.edge(20, "FEEDS (16) are numbered as they come", () -> {
            ColdRows x = new ColdRows();
            for (int f = 0; f < 16; f++) {
                T.due("FEED " + f, x.feed(NONE, 1), f);
                T.due("count(1)", x.count(1), f + 1);
            }
        });
        T.edge(20, "a ROOM (0 to 10000)", () -> {
            T.range(v -> new ColdRows().feed(NONE, v), 0, 10000, 0);
            T.range(v -> with(NONE).feed(0, v), 0, 10000, 1);
            ColdRows x = new ColdRows();
            x.feed(NONE, 0);
            plugged(x, 0, 0, NONE);
            T.due("0 in ROOM 0", x.state(0), 0);
            x.load(0, 1);
            T.due("1 in ROOM 0", x.state(0), 1);
        });
        T.edge(20, "under one that came ahead of it", () -> {
            T.range(above -> with(NONE, NONE, NONE).feed(above, 1), 0, 2, 3);
            T.due("none came ahead", new ColdRows().feed(0, 1), BAD);
            T.due("itself", with(NONE).feed(1, 1), BAD);
        });
        T.edge(20, "NONE: a SOURCE", () -> {
            T.due("at first", new ColdRows().feed(NONE, 1), 0);
            int[] others = {-1, -2, -3, -5};
            for (int above : others) {
                T.due(above + " is none", with(NONE).feed(above, 1), BAD);
            }
            ColdRows x = with(NONE, NONE);
            x.fail(0, true);
            T.due("the second is under none", x.state(4), 1);
        });
        T.edge(20, "FULL", () -> {
            ColdRows x = with(NONE, 0, 1, 2, 3, 4, 5, 6, 7, 8, 9, 10, 11, 12, 13, 14);
            T.due("a seventeenth", x.feed(15, 1), FULL);
            T.due("a SOURCE", x.feed(NONE, 1), FULL);
            T.due("there are 16", x.count(1), 16);
            T.due("no seventeenth", x.through(16), BAD);
        });
        T.edge(20, "BAD; FULL: the first that fits", () -> {
            ColdRows x = with(NONE, 0, 1, 2, 3, 4, 5, 6, 7, 8, 9, 10, 11, 12, 13, 14);
            T.due("above", x.feed(16, 1), BAD);
            T.due("below", x.feed(-1, 1), BAD);
            T.due("ROOM", x.feed(0, 10001), BAD);
            T.due("ROOM below", x.feed(NONE, -1), BAD);
        });
        T.edge(20, "BAD: refused, it changes nothing", () -> {
            ColdRows x = with(NONE);
            x.feed(1, 1);
            x.feed(-1, 1);
            x.feed(NONE, -1);
            x.feed(0, 10001);
            T.due("count(1)", x.count(1), 1);
            T.due("the next number", x.feed(0, 1), 1);
        });
        T.edge(20, "sixteen, each under the one ahead", () -> {
            ColdRows x = with(NONE, 0, 1, 2, 3, 4, 5, 6, 7, 8, 9, 10, 11, 12, 13, 14);
            plugged(x, 9, 15, NONE);
            T.due("through the first", x.through(0), 9);
            x.fail(0, true);
            T.due("all are DEAD", x.state(4), 16);
            x.fail(0, false);
            x.fail(15, true);
            T.due("the last alone is DEAD", x.state(4), 1);
        });
    }

    // ---- promise 21

    private static ColdRows racksAndFeeds() {
        ColdRows x = with(NONE, NONE, NONE);
        for (int r = 0; r < 3; r++) {
            x.rack(10, 20000, 1, 1);
        }
        return x;
    }

    private static void plugs() {
        T.edge(21, "there is no such RACK", () -> {
            T.range(r -> racksAndFeeds().plug(r, 0, 0), 0, 2, NONE);
            T.due("no RACKS", with(NONE).plug(0, 0, 0), BAD);
            T.due("no RACKS, no FEED", new ColdRows().plug(0, 0, NONE), BAD);
        });
        T.edge(21, "PLUG (0, 1)", () -> T.range(which -> racksAndFeeds().plug(0, which, 0), 0, 1, NONE));
        T.edge(21, "at a FEED", () -> {
            T.range(f -> racksAndFeeds().plug(0, 0, f), 0, 2, NONE);
            int[] others = {-1, -2, -3, -5};
            for (int f : others) {
                T.due(f + " is none", racksAndFeeds().plug(0, 1, f), BAD);
            }
            ColdRows x = new ColdRows();
            x.rack(1, 20000, 1, 1);
            T.due("no FEEDS", x.plug(0, 0, 0), BAD);
            T.due("the last of 16", fullFeeds().plug(0, 1, 15), NONE);
            T.due("behind 16", fullFeeds().plug(0, 1, 16), BAD);
        });
        T.edge(21, "(NONE: no more)", () -> {
            ColdRows x = racksAndFeeds();
            T.due("there was none", x.plug(0, 0, NONE), NONE);
            T.due("nor of the other, which is not STATE", x.plug(0, 1, NONE), NONE);
            x.plug(0, 0, 2);
            T.due("no more", x.plug(0, 0, NONE), 2);
            T.due("it is DARK", x.state(3), 0);
            T.due("nothing is DRAWN", x.through(2), 0);
        });
        T.edge(21, "at which it was (NONE)", () -> {
            ColdRows x = racksAndFeeds();
            T.due("at first", x.plug(1, 0, 0), NONE);
            T.due("at 0, then 1", x.plug(1, 0, 1), 0);
            T.due("at 1, then 1 again", x.plug(1, 0, 1), 1);
            T.due("the other PLUG is another", x.plug(1, 1, 2), NONE);
            T.due("another RACK is another", x.plug(2, 0, 2), NONE);
            T.due("at 1", x.plug(1, 0, NONE), 1);
            T.due("at 2", x.plug(1, 1, NONE), 2);
        });
        T.edge(21, "STATE: the other one is there", () -> {
            ColdRows x = racksAndFeeds();
            x.plug(0, 0, 1);
            T.due("the second to the first's", x.plug(0, 1, 1), STATE);
            x.plug(0, 1, 2);
            T.due("the first to the second's", x.plug(0, 0, 2), STATE);
            T.due("another RACK's first may", x.plug(1, 0, 1), NONE);
            T.due("another RACK's second may", x.plug(1, 1, 2), NONE);
            T.due("another RACK's may the other way", x.plug(2, 0, 2), NONE);
            T.due("another RACK's may the other way", x.plug(2, 1, 1), NONE);
            T.due("there itself: not STATE", x.plug(0, 1, 2), 2);
            x.plug(0, 0, NONE);
            T.due("the first has gone", x.plug(0, 1, 1), 2);
        });
        T.edge(21, "at a FEED that is DEAD", () -> {
            ColdRows x = with(NONE, 0);
            x.rack(10, 20000, 1, 1);
            x.fail(0, true);
            T.due("by the one above", x.plug(0, 0, 1), NONE);
            T.due("FAILED", x.plug(0, 1, 0), NONE);
            T.due("STATE as ever", x.plug(0, 0, 0), STATE);
            x.fail(0, false);
            dueThrough(x, "mended", 10, 5);
        });
        T.edge(21, "BAD; STATE: the first that fits", () -> {
            ColdRows x = racksAndFeeds();
            x.plug(0, 0, 1);
            T.due("PLUG 2", x.plug(0, 2, 1), BAD);
            T.due("PLUG -1", x.plug(0, -1, 1), BAD);
            T.due("no such RACK", x.plug(3, 1, 1), BAD);
        });
        T.edge(21, "refused, it changes nothing", () -> {
            ColdRows x = racksAndFeeds();
            x.plug(0, 0, 0);
            x.plug(0, 1, 1);
            x.plug(0, 0, 1);
            x.plug(0, 1, 0);
            x.plug(0, 0, 3);
            x.plug(0, 1, -1);
            x.plug(0, 2, 2);
            dueThrough(x, "a half each", 5, 5, 0);
            T.due("the first", x.plug(0, 0, NONE), 0);
            T.due("the second", x.plug(0, 1, NONE), 1);
        });
    }

    private static ColdRows fullFeeds() {
        ColdRows x = with(NONE, 0, 1, 2, 3, 4, 5, 6, 7, 8, 9, 10, 11, 12, 13, 14);
        x.rack(1, 20000, 1, 1);
        return x;
    }

    // ---- promise 22

    private static void fails() {
        T.edge(22, "there is no such FEED", () -> {
            T.range(f -> with(NONE, 0, 1).fail(f, true), 0, 2, 0);
            T.range(f -> with(NONE, 0, 1).fail(f, false), 0, 2, 0);
            T.due("no FEEDS", new ColdRows().fail(0, true), BAD);
            T.due("NONE", with(NONE).fail(NONE, true), BAD);
            T.due("behind 16", fullFeeds().fail(16, true), BAD);
            T.due("the last of 16", fullFeeds().fail(15, true), 0);
        });
        T.edge(22, "whether it had (1, 0)", () -> {
            ColdRows x = with(NONE);
            T.due("not, stays so", x.fail(0, false), 0);
            T.due("fails", x.fail(0, true), 0);
            T.due("fails again", x.fail(0, true), 1);
            T.due("no more", x.fail(0, false), 1);
            T.due("no more again", x.fail(0, false), 0);
        });
        T.edge(22, "each of the 16 by itself", () -> {
            ColdRows x = fullFeeds();
            for (int f = 0; f < 16; f += 2) {
                x.fail(f, true);
            }
            for (int f = 0; f < 16; f++) {
                T.due("FEED " + f, x.fail(f, false), f % 2 == 0 ? 1 : 0);
            }
            T.due("none is DEAD", x.state(4), 0);
        });
        T.edge(22, "DEAD, if it or one above it has FAILED", () -> {
            ColdRows x = with(NONE, 0, 1, 0, NONE);
            x.fail(1, true);
            T.due("1 and 2 under it", x.state(4), 2);
            T.due("2 has not FAILED", x.fail(2, false), 0);
            x.fail(0, true);
            T.due("0, 1, 2, 3", x.state(4), 4);
            x.fail(1, false);
            T.due("1 is under 0 still", x.state(4), 4);
            x.fail(2, true);
            x.fail(0, false);
            T.due("2 has FAILED itself", x.state(4), 1);
        });
        T.edge(22, "BAD: refused, it changes nothing", () -> {
            ColdRows x = with(NONE, NONE);
            x.fail(1, true);
            x.fail(2, true);
            x.fail(-1, true);
            x.fail(33, false);
            x.fail(32, true);
            T.due("state(4)", x.state(4), 1);
            T.due("the next FEED has not FAILED", x.feed(NONE, 1), 2);
            T.due("state(4)", x.state(4), 1);
        });
    }

    // ---- promise 23

    private static void through() {
        T.edge(23, "there is no such FEED", () -> {
            T.range(f -> with(NONE, 0, 1).through(f), 0, 2, 0);
            T.due("no FEEDS", new ColdRows().through(0), BAD);
            T.due("NONE", with(NONE).through(NONE), BAD);
            T.due("behind 16", fullFeeds().through(16), BAD);
            T.due("the last of 16", fullFeeds().through(15), 0);
        });
        T.edge(23, "a half of it each (the first PLUG's a half up)", () -> {
            int[] loads = {0, 1, 2, 3, 999, 1000};
            for (int load : loads) {
                ColdRows x = twoWays(10000, 10000, load);
                dueThrough(x, "LOAD " + load, load - load / 2, load / 2);
                ColdRows y = with(NONE, NONE);
                plugged(y, load, 1, 0);
                dueThrough(y, "LOAD " + load + ", the first at 1", load / 2, load - load / 2);
            }
        });
        T.edge(23, "halves of each RACK, not of their sum", () -> {
            ColdRows x = twoWays(10000, 10000, 1);
            plugged(x, 1, 0, 1);
            plugged(x, 1, 1, 0);
            dueThrough(x, "three of 1", 2, 1);
        });
        T.edge(23, "its LOAD from the one that is not DEAD", () -> {
            ColdRows x = twoWays(10000, 10000, 7);
            x.fail(0, true);
            dueThrough(x, "the first is DEAD", 0, 7);
            x.fail(0, false);
            x.fail(1, true);
            dueThrough(x, "the second is DEAD", 7, 0);
            x.fail(0, true);
            dueThrough(x, "both are DEAD", 0, 0);
        });
        T.edge(23, "up to two PLUGS", () -> {
            ColdRows x = with(NONE, NONE);
            x.rack(7, 20000, 1, 1);
            dueThrough(x, "no PLUG", 0, 0);
            x.plug(0, 1, 1);
            dueThrough(x, "the second alone", 0, 7);
            x.plug(0, 1, NONE);
            x.plug(0, 0, 0);
            dueThrough(x, "the first alone", 7, 0);
        });
        T.edge(23, "from it and from all under it", () -> {
            ColdRows x = with(NONE, 0, 1, 1, 0, NONE);
            int[] loads = {1, 10, 100, 200, 20, 2};
            for (int f = 0; f < 6; f++) {
                plugged(x, loads[f], f, NONE);
            }
            dueThrough(x, "a tree", 331, 310, 100, 200, 20, 2);
        });
        T.edge(23, "both PLUGS under one", () -> {
            ColdRows x = with(NONE, 0, 1, 1);
            plugged(x, 5, 2, 3);
            dueThrough(x, "halves join", 5, 5, 3, 2);
            ColdRows y = with(NONE, 0);
            plugged(y, 5, 1, 0);
            dueThrough(y, "one above the other", 5, 3);
        });
        T.edge(23, "of a DEAD one 0", () -> {
            ColdRows x = with(NONE, 0, 1);
            for (int f = 0; f < 3; f++) {
                plugged(x, 10, f, NONE);
            }
            x.fail(1, true);
            dueThrough(x, "the middle one", 10, 0, 0);
            x.fail(0, true);
            dueThrough(x, "all", 0, 0, 0);
            x.fail(0, false);
            x.fail(1, false);
            x.fail(2, true);
            dueThrough(x, "the last one", 20, 10, 0);
        });
        T.edge(23, "the most of all", () -> {
            ColdRows x = fullFeeds();
            x.load(0, 1000);
            x.plug(0, 0, 15);
            for (int r = 1; r < 8; r++) {
                plugged(x, 1000, 15, 14);
            }
            T.due("through(0)", x.through(0), 8000);
            T.due("through(14)", x.through(14), 8000);
            T.due("through(15)", x.through(15), 4500);
        });
    }

    // ---- promise 24

    private static void states() {
        T.edge(24, "what 0 to 4. BAD", () -> {
            T.outside(what -> new ColdRows().state(what), 0, 4, BAD);
            T.outside(what -> twoWays(1, 1, 5).state(what), 0, 4, BAD);
        });
        T.edge(24, "of none", () -> dueState(new ColdRows(), "a new object", 0, NONE, 0, NONE, 0));
        T.edge(24, "OVER, if that is above its ROOM", () -> {
            ColdRows x = new ColdRows();
            x.feed(NONE, 7);
            plugged(x, 7, 0, NONE);
            dueState(x, "just its ROOM", 0, NONE);
            x.load(0, 8);
            dueState(x, "one above", 1, 0);
        });
        T.edge(24, "OVER by a half up", () -> {
            dueState(twoWays(2, 2, 5), "3 in 2, 2 in 2", 1, 0);
            dueState(twoWays(3, 1, 5), "3 in 3, 2 in 1", 1, 1);
            dueState(twoWays(3, 2, 5), "3 in 3, 2 in 2", 0, NONE);
        });
        T.edge(24, "0 how many FEEDS are OVER, 1 the first one", () -> {
            ColdRows x = new ColdRows();
            for (int f = 0; f < 16; f++) {
                x.feed(f == 0 ? NONE : f - 1, 15 - f);
            }
            x.rack(0, 20000, 1, 1);
            x.plug(0, 0, 15);
            for (int load = 0; load <= 16; load++) {
                x.load(0, load);
                dueState(x, "LOAD " + load, load, load == 0 ? NONE : 16 - load);
            }
        });
        T.edge(24, "a DEAD one is not OVER", () -> {
            ColdRows x = twoWays(0, 0, 10);
            dueState(x, "both are OVER", 2, 0);
            x.fail(0, true);
            dueState(x, "the second alone", 1, 1);
            x.fail(1, true);
            dueState(x, "none", 0, NONE, 1, 0, 2);
        });
        T.edge(24, "DARK, if it has none that is not DEAD", () -> {
            ColdRows x = twoWays(10000, 10000, 1);
            dueState(x, "two", 0, NONE, 0, NONE, 0);
            x.fail(0, true);
            dueState(x, "one", 0, NONE, 0, NONE, 1);
            x.fail(1, true);
            dueState(x, "none", 0, NONE, 1, 0, 2);
        });
        T.edge(24, "DARK without PLUGS", () -> {
            ColdRows x = new ColdRows();
            x.rack(1, 20000, 1, 1);
            dueState(x, "no FEEDS", 0, NONE, 1, 0, 0);
            x.feed(NONE, 1);
            dueState(x, "a FEED", 0, NONE, 1, 0, 0);
            x.plug(0, 1, 0);
            dueState(x, "a PLUG", 0, NONE, 0, NONE, 0);
        });
        T.edge(24, "DARK with LOAD 0", () -> {
            ColdRows x = twoWays(0, 0, 0);
            dueState(x, "it has PLUGS", 0, NONE, 0, NONE, 0);
            x.plug(0, 0, NONE);
            x.fail(1, true);
            dueState(x, "it has none that is not DEAD", 0, NONE, 1, 0, 1);
        });
        T.edge(24, "2 how many RACKS are DARK, 3 the first one", () -> {
            ColdRows x = with(NONE);
            for (int r = 0; r < 8; r++) {
                x.rack(1, 20000, 1, 1);
            }
            for (int r = 0; r < 8; r++) {
                dueState(x, r + " have PLUGS", 0, NONE, 8 - r, r, 0);
                x.plug(r, 0, 0);
            }
            dueState(x, "all have PLUGS", 0, NONE, 0, NONE, 0);
        });
        T.edge(24, "4 how many FEEDS are DEAD", () -> {
            ColdRows x = with(NONE, 0, 0, 2, 3, NONE, 5);
            int[] due = {5, 1, 3, 2, 1, 2, 1};
            for (int f = 0; f < due.length; f++) {
                x.fail(f, true);
                T.due("by FEED " + f, x.state(4), due[f]);
                x.fail(f, false);
            }
        });
    }

    // ---- promise 25

    private static void weak() {
        T.edge(25, "NONE", () -> {
            T.due("no FEEDS", new ColdRows().weak(), NONE);
            T.due("no RACKS", with(NONE, 0).weak(), NONE);
            T.due("two ways", twoWays(10, 10, 10).weak(), NONE);
        });
        T.edge(25, "a FEED would be OVER", () -> {
            T.due("10 in 9 by the second", twoWays(9, 10, 10).weak(), 1);
            T.due("10 in 9 by the first", twoWays(10, 9, 10).weak(), 0);
            T.due("10 in 10: none", twoWays(10, 10, 10).weak(), NONE);
        });
        T.edge(25, "a FEED above would be OVER", () -> {
            ColdRows x = new ColdRows();
            x.feed(NONE, 9);
            x.feed(0, 10);
            x.feed(NONE, 10);
            x.feed(2, 10);
            plugged(x, 10, 1, 3);
            T.due("0 by 2", x.weak(), 2);
        });
        T.edge(25, "a RACK DARK", () -> {
            ColdRows x = with(NONE, NONE, 1);
            plugged(x, 0, 2, NONE);
            T.due("by the one above, though LOAD 0", x.weak(), 1);
            plugged(x, 0, 0, NONE);
            T.due("by the first", x.weak(), 0);
        });
        T.edge(25, "both PLUGS under one", () -> {
            ColdRows x = with(NONE, NONE, 1, 1);
            plugged(x, 5, 2, 3);
            T.due("by the one above both", x.weak(), 1);
        });
        T.edge(25, "that is not so now: OVER", () -> {
            T.due("both are OVER", twoWays(4, 4, 10).weak(), NONE);
            T.due("the first is not", twoWays(5, 4, 10).weak(), 1);
            T.due("the second is not", twoWays(4, 5, 10).weak(), 0);
        });
        T.edge(25, "that is not so now: DARK", () -> {
            ColdRows x = with(NONE);
            x.rack(1, 20000, 1, 1);
            T.due("DARK already", x.weak(), NONE);
            plugged(x, 1, 0, NONE);
            T.due("the second RACK is not", x.weak(), 0);
        });
        T.edge(25, "one becomes OVER while another is no more", () -> {
            ColdRows x = new ColdRows();
            x.feed(NONE, 1);
            x.feed(NONE, 9);
            plugged(x, 10, 0, 1);
            dueState(x, "0 is OVER", 1, 0);
            T.due("1 would be by 0", x.weak(), 0);
        });
        T.edge(25, "The first FEED that has not FAILED", () -> {
            ColdRows x = with(NONE, NONE);
            plugged(x, 10, 0, 1);
            x.fail(0, true);
            T.due("1 is the last way", x.weak(), 1);
            x.fail(0, false);
            x.fail(1, true);
            T.due("0 is the last way", x.weak(), 0);
            x.fail(0, true);
            T.due("all have FAILED", x.weak(), NONE);
        });
        T.edge(25, "DEAD, but not FAILED", () -> {
            ColdRows x = with(NONE, 0, 1);
            plugged(x, 10, 2, NONE);
            x.fail(0, true);
            T.due("it changes nothing by failing", x.weak(), NONE);
            x.fail(0, false);
            x.fail(2, true);
            T.due("0 and 1 bear nothing", x.weak(), NONE);
        });
        T.edge(25, "the last of 16", () -> {
            ColdRows x = with(NONE, NONE, NONE, NONE, NONE, NONE, NONE, NONE,
                NONE, NONE, NONE, NONE, NONE, NONE, NONE, NONE);
            plugged(x, 10, 15, NONE);
            T.due("weak()", x.weak(), 15);
        });
        T.edge(25, "it changes nothing", () -> {
            ColdRows x = twoWays(9, 9, 10);
            T.due("weak()", x.weak(), 0);
            T.due("weak() again", x.weak(), 0);
            dueState(x, "as ahead", 0, NONE, 0, NONE, 0);
            dueThrough(x, "as ahead", 5, 5);
            T.due("0 has not FAILED", x.fail(0, false), 0);
        });
    }
}
