/** A test for each sentence of promises 15 to 19 that names an edge. */
public final class PlacingsEdgesTest {
    private static final Checks T = new Checks();
    private static final int BAD = -1, FULL = -3, NONE = -4;

    public static void main(String[] args) {
        machines();
        leaving();
        placed();
        ofSeveral();
        warmest();
        placings();
        T.covers(15, 19);
        T.end();
    }

    /** RACKS without a LOAD, each with so many PLACES, each with SHARE 1 at itself. */
    private static ColdRows with(int... places) {
        ColdRows x = new ColdRows();
        for (int r = 0; r < places.length; r++) {
            x.rack(0, 20000, 1, places[r]);
            x.share(r, r, 1);
        }
        return x;
    }

    private static ColdRows withMachines(ColdRows x, int many) {
        for (int m = 0; m < many; m++) {
            x.machine(1, 1);
        }
        return x;
    }

    private static void duePlaced(ColdRows x, String what, int... racks) {
        for (int m = 0; m < racks.length; m++) {
            T.due(what + ": placed(" + m + ")", x.placed(m), racks[m]);
        }
    }

    // ---- promise 15

    private static void machines() {
        T.edge(15, "MACHINES (5) are numbered as they come", () -> {
            ColdRows x = new ColdRows();
            for (int m = 0; m < 5; m++) {
                T.due("MACHINE " + m, x.machine(1, 1), m);
                T.due("count(2)", x.count(2), m + 1);
            }
        });
        T.edge(15, "a LOAD (1 to 300)", () -> {
            T.range(v -> new ColdRows().machine(v, 1), 1, 300, 0);
            ColdRows x = with(20);
            x.machine(1, 1);
            T.due("the least counts", x.warmest(), 20001);
            x.machine(300, 1);
            T.due("the most counts", x.warmest(), 20301);
        });
        T.edge(15, "PLACES (1 to 10) that it takes", () -> {
            T.range(v -> new ColdRows().machine(1, v), 1, 10, 0);
            ColdRows x = with(0, 1);
            x.machine(1, 1);
            T.due("the least takes 1", x.placings(), 1);
            ColdRows y = with(9, 10);
            y.machine(1, 10);
            T.due("the most takes 10", y.placings(), 1);
        });
        T.edge(15, "FULL", () -> {
            ColdRows x = withMachines(with(20), 5);
            T.due("a sixth", x.machine(300, 10), FULL);
            T.due("still", x.machine(1, 1), FULL);
            T.due("there are 5", x.count(2), 5);
            T.due("no sixth", x.placed(5), BAD);
            T.due("warmest()", x.warmest(), 20005);
        });
        T.edge(15, "BAD; FULL: the first that fits", () -> {
            ColdRows x = withMachines(with(20), 5);
            T.due("LOAD", x.machine(0, 1), BAD);
            T.due("LOAD above", x.machine(301, 1), BAD);
            T.due("PLACES", x.machine(1, 0), BAD);
            T.due("PLACES above", x.machine(1, 11), BAD);
        });
        T.edge(15, "FULL no more, when one has left", () -> {
            ColdRows x = withMachines(with(20), 5);
            x.leave();
            T.due("machine(1, 1)", x.machine(1, 1), 4);
            T.due("again", x.machine(1, 1), FULL);
        });
        T.edge(15, "BAD: refused, it changes nothing", () -> {
            ColdRows x = withMachines(with(20), 1);
            x.machine(0, 1);
            x.machine(301, 1);
            x.machine(1, 0);
            x.machine(1, 11);
            T.due("count(2)", x.count(2), 1);
            T.due("warmest()", x.warmest(), 20001);
            T.due("the next number", x.machine(1, 1), 1);
        });
    }

    // ---- promise 16

    private static void leaving() {
        T.edge(16, "NONE", () -> {
            ColdRows x = new ColdRows();
            T.due("at first", x.leave(), NONE);
            T.due("it changes nothing", x.count(2), 0);
            x.machine(1, 1);
            T.due("the only one", x.leave(), 0);
            T.due("when all have gone", x.leave(), NONE);
            T.due("again", x.leave(), NONE);
            T.due("count(2)", x.count(2), 0);
            T.due("the next number", x.machine(1, 1), 0);
        });
        T.edge(16, "The latest MACHINE goes: its number", () -> {
            ColdRows x = withMachines(with(20), 5);
            for (int m = 4; m >= 0; m--) {
                T.due("leave()", x.leave(), m);
                T.due("count(2)", x.count(2), m);
                T.due("it is no more", x.placed(m), BAD);
            }
        });
        T.edge(16, "The latest goes, the others stay", () -> {
            ColdRows x = with(20);
            x.machine(10, 1);
            x.machine(200, 2);
            x.leave();
            T.due("the LOAD of the other", x.warmest(), 20010);
            x.machine(30, 1);
            T.due("a new one in its stead", x.warmest(), 20040);
            ColdRows y = with(1, 2);
            y.machine(10, 1);
            y.machine(200, 2);
            T.due("one of 1, one of 2 PLACES", y.placings(), 1);
            y.leave();
            T.due("one of 1", y.placings(), 2);
            y.machine(30, 1);
            T.due("two of 1", y.placings(), 3);
        });
    }

    // ---- promise 17

    private static void placed() {
        T.edge(17, "there is no such MACHINE", () -> {
            T.range(m -> withMachines(with(20), 3).placed(m), 0, 2, 0);
            T.due("none at all", with(20).placed(0), BAD);
            T.due("behind 5", withMachines(with(20), 5).placed(5), BAD);
        });
        T.edge(17, "NONE: there is no PLACING", () -> {
            T.due("no RACKS", withMachines(new ColdRows(), 1).placed(0), NONE);
            T.due("no PLACES", withMachines(with(0, 0), 1).placed(0), NONE);
            ColdRows x = with(4, 4);
            x.machine(1, 3);
            x.machine(1, 3);
            duePlaced(x, "two of 3 in 4 and 4", 0, 1);
            x.machine(1, 2);
            duePlaced(x, "and one of 2: 8 PLACES, but 1 and 1 are left", NONE, NONE, NONE);
        });
        T.edge(17, "BAD; NONE: the first that fits", () -> {
            T.due("above", withMachines(with(0), 1).placed(1), BAD);
            T.due("below", withMachines(with(0), 1).placed(-1), BAD);
            T.due("no RACKS", withMachines(new ColdRows(), 1).placed(1), BAD);
        });
        T.edge(17, "no RACK has more taken than its PLACES", () -> {
            ColdRows x = with(3, 20);
            x.share(0, 0, 0);
            x.machine(1, 3);
            duePlaced(x, "just its PLACES", 0);
            x.leave();
            x.machine(1, 4);
            duePlaced(x, "one more", 1);
            x.leave();
            x.machine(1, 2);
            x.machine(2, 1);
            duePlaced(x, "2 and 1", 0, 0);
            x.machine(3, 1);
            duePlaced(x, "2 and 1 and 1: the least LOAD goes to 1", 1, 0, 0);
        });
        T.edge(17, "the greatest of what comes INTO a RACK is least", () -> {
            ColdRows x = with(5, 5);
            x.machine(10, 1);
            x.machine(11, 1);
            x.machine(12, 1);
            duePlaced(x, "10 and 11 against 12", 0, 0, 1);
            x.machine(9, 1);
            duePlaced(x, "10 and 11 against 12 and 9", 0, 0, 1, 1);
            x.machine(30, 1);
            duePlaced(x, "all four against 30", 0, 0, 0, 1, 1);
        });
        T.edge(17, "INTO any RACK, also one that takes none", () -> {
            ColdRows x = with(1, 1, 0);
            x.share(2, 0, 2);
            x.machine(5, 1);
            duePlaced(x, "0 warms RACK 2 by 10", 1);
            x.share(2, 1, 2);
            duePlaced(x, "1 does so, too", 0);
        });
        T.edge(17, "INTO any RACK, also one that no MACHINE warms", () -> {
            ColdRows x = with(1, 1, 0);
            x.share(0, 0, 2);
            x.share(2, 2, 100);
            x.load(2, 1);
            x.machine(5, 1);
            duePlaced(x, "RACK 2 is warmest by either", 0);
            x.load(2, 0);
            duePlaced(x, "RACK 0 would be", 1);
            ColdRows y = with(1, 1, 0);
            y.load(2, 100);
            y.share(2, 2, 0);
            y.share(1, 2, 1);
            y.share(0, 0, 50);
            y.machine(1, 1);
            duePlaced(y, "50 at 0 and 100 at 1 against 101 at 1", 0);
        });
        T.edge(17, "their LOADS come to those of the RACKS", () -> {
            ColdRows x = with(5, 5);
            x.load(0, 2);
            x.machine(1, 1);
            duePlaced(x, "0 has 2 of its own", 1);
            x.load(1, 1);
            duePlaced(x, "2 at 1 is no more than 2 at 0", 1);
            x.load(1, 2);
            duePlaced(x, "3 by either", 0);
        });
        T.edge(17, "AIR, FAN as they are", () -> {
            ColdRows x = with(1, 1);
            x.share(0, 0, 4);
            x.share(1, 1, 3);
            x.machine(1, 1);
            duePlaced(x, "4 against 3", 1);
            x.set(20, 3);
            duePlaced(x, "2 against 1, by FAN 3", 1);
            x.set(20, 2);
            duePlaced(x, "2 against 2, by FAN 2", 0);
        });
        T.edge(17, "a LIMIT does not count", () -> {
            ColdRows x = new ColdRows();
            x.rack(0, 10000, 1, 1);
            x.rack(0, 60000, 1, 1);
            x.machine(1, 1);
            duePlaced(x, "0 is HOT, but as warm as 1", 0);
        });
        T.edge(17, "it changes nothing", () -> {
            ColdRows x = with(5, 5);
            x.machine(10, 5);
            x.placed(0);
            T.due("the LOAD", x.load(0, 0), 0);
            T.due("INTO", x.into(0), 20000);
            T.due("asked again", x.placed(0), 0);
        });
    }

    private static void ofSeveral() {
        T.edge(17, "of several the one with the least RACK of MACHINE 0", () -> {
            T.due("of 8 the same", withMachines(with(1, 1, 1, 1, 1, 1, 1, 1), 1).placed(0), 0);
            ColdRows x = with(2, 2);
            x.machine(10, 1);
            x.machine(20, 1);
            duePlaced(x, "one each, either way", 0, 1);
        });
        T.edge(17, "then of 1, and so on", () -> {
            ColdRows x = with(5, 5, 5);
            for (int m = 0; m < 4; m++) {
                x.machine(5, 1);
            }
            x.machine(15, 1);
            duePlaced(x, "three of 5 are as warm as one of 15", 0, 0, 0, 1, 2);
            ColdRows y = with(5, 5, 5);
            y.machine(20, 1);
            for (int m = 1; m < 5; m++) {
                y.machine(5, 1);
            }
            duePlaced(y, "20 alone, the others in the next", 0, 1, 1, 1, 1);
        });
        T.edge(17, "the last RACK and the last MACHINE", () -> {
            ColdRows x = with(0, 0, 0, 0, 0, 0, 0, 5);
            duePlaced(withMachines(x, 5), "all in RACK 7", 7, 7, 7, 7, 7);
            ColdRows y = with(1, 1, 1, 1, 0, 0, 0, 1);
            duePlaced(withMachines(y, 5), "one each", 0, 1, 2, 3, 7);
        });
    }

    // ---- promise 18

    private static void warmest() {
        T.edge(18, "NONE: no RACKS", () -> {
            T.due("no MACHINES", new ColdRows().warmest(), NONE);
            T.due("MACHINES", withMachines(new ColdRows(), 2).warmest(), NONE);
        });
        T.edge(18, "NONE: no PLACING", () -> {
            T.due("no PLACES", withMachines(with(0), 1).warmest(), NONE);
            T.due("all taken", withMachines(with(1, 1), 3).warmest(), NONE);
            T.due("just enough", withMachines(with(1, 1), 2).warmest(), 20001);
        });
        T.edge(18, "Without MACHINES: of the RACKS as they are", () -> {
            ColdRows x = with(0, 0);
            T.due("no LOADS, no PLACES", x.warmest(), 20000);
            x.load(1, 7);
            T.due("the second", x.warmest(), 20007);
            x.load(0, 8);
            T.due("the first", x.warmest(), 20008);
            x.machine(1, 1);
            x.leave();
            T.due("it has gone", x.warmest(), 20008);
        });
        T.edge(18, "That greatest one", () -> {
            ColdRows x = with(2, 2);
            x.machine(10, 1);
            T.due("one", x.warmest(), 20010);
            x.machine(20, 1);
            T.due("one each", x.warmest(), 20020);
            x.machine(15, 2);
            T.due("one of 2 PLACES alone", x.warmest(), 20030);
        });
        T.edge(18, "divided by THE FAN, up to a whole number", () -> {
            ColdRows x = withMachines(with(5), 4);
            x.set(10, 3);
            T.due("4 by 3", x.warmest(), 10002);
            x.leave();
            T.due("3 by 3", x.warmest(), 10001);
            x.machine(298, 1);
            x.set(30, 5);
            T.due("301 by 5", x.warmest(), 30061);
        });
        T.edge(18, "the most of all", () -> {
            ColdRows x = new ColdRows();
            for (int r = 0; r < 8; r++) {
                x.rack(1000, 10000, 1, 20);
                for (int j = 0; j <= r; j++) {
                    x.share(j, r, 200);
                    x.share(r, j, 200);
                }
            }
            for (int m = 0; m < 5; m++) {
                x.machine(300, 10);
            }
            x.set(30, 1);
            T.due("8000 and 1500, each 200 times", x.warmest(), 1930000);
        });
    }

    // ---- promise 19

    private static void placings() {
        T.edge(19, "without MACHINES there is one", () -> {
            T.due("no RACKS", new ColdRows().placings(), 1);
            T.due("no PLACES", with(0).placings(), 1);
            T.due("RACKS", with(5, 5, 5).placings(), 1);
        });
        T.edge(19, "without RACKS there is none for a MACHINE", () -> {
            T.due("one", withMachines(new ColdRows(), 1).placings(), 0);
            T.due("five", withMachines(new ColdRows(), 5).placings(), 0);
        });
        T.edge(19, "no RACK has more taken than its PLACES", () -> {
            T.due("two in 1", withMachines(with(1), 2).placings(), 0);
            T.due("two in 2", withMachines(with(2), 2).placings(), 1);
            T.due("two in 1 and 1", withMachines(with(1, 1), 2).placings(), 2);
            T.due("two in 2 and 1", withMachines(with(2, 1), 2).placings(), 3);
            T.due("two in 2 and 2", withMachines(with(2, 2), 2).placings(), 4);
            T.due("two in 2, 0 and 2", withMachines(with(2, 0, 2), 2).placings(), 4);
        });
        T.edge(19, "the most of all", () -> {
            T.due("8 to the 5", withMachines(with(5, 5, 5, 5, 5, 5, 5, 5), 5).placings(), 32768);
            T.due("less those with all in one", withMachines(with(4, 4, 4, 4, 4, 4, 4, 4), 5).placings(), 32760);
            T.due("each in its own", withMachines(with(1, 1, 1, 1, 1, 1, 1, 1), 5).placings(), 6720);
            T.due("all in the last", withMachines(with(0, 0, 0, 0, 0, 0, 0, 5), 5).placings(), 1);
        });
        T.edge(19, "a HOT RACK takes MACHINES, too", () -> {
            ColdRows x = new ColdRows();
            x.rack(0, 10000, 1, 1);
            x.machine(1, 1);
            T.due("RACK 0 is HOT", x.hot(0), 1);
            T.due("placings()", x.placings(), 1);
        });
    }
}
