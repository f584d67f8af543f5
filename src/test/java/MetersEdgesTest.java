/** A test for each sentence of promises 30 to 35 that names an edge. */
public final class MetersEdgesTest {
    private static final Checks T = new Checks();
    private static final int BAD = -1, FULL = -3, NONE = -4, NOT = 1000000000;

    public static void main(String[] args) {
        meters();
        reading();
        losing();
        known();
        rounds();
        quarrels();
        counts();
        T.covers(30, 35);
        T.end();
    }

    private static ColdRows with(int... aboves) {
        ColdRows x = new ColdRows();
        for (int above : aboves) {
            x.meter(above);
        }
        return x;
    }

    private static ColdRows full() {
        return with(NONE, 0, 1, 2, 3, 4, 5, 6, 7, 8, 9, 10);
    }

    private static void dueKnown(ColdRows x, String what, int... due) {
        for (int m = 0; m < due.length; m++) {
            T.due(what + ": known(" + m + ")", x.known(m), due[m]);
        }
    }

    // ---- promise 30

    private static void meters() {
        T.edge(30, "METERS (12) are numbered as they come", () -> {
            ColdRows x = new ColdRows();
            for (int m = 0; m < 12; m++) {
                T.due("METER " + m, x.meter(NONE), m);
                T.due("count(4)", x.count(4), m + 1);
            }
        });
        T.edge(30, "under one that came ahead of it", () -> {
            T.range(above -> with(NONE, NONE, NONE).meter(above), 0, 2, 3);
            T.due("none came ahead", new ColdRows().meter(0), BAD);
            T.due("itself", with(NONE).meter(1), BAD);
        });
        T.edge(30, "(NONE: none)", () -> {
            T.due("at first", new ColdRows().meter(NONE), 0);
            int[] others = {-1, -2, -3, -5};
            for (int above : others) {
                T.due(above + " is none", with(NONE).meter(above), BAD);
            }
            ColdRows x = with(NONE, NONE);
            x.reads(0, 5);
            T.due("the second is under none", x.known(1), NOT);
        });
        T.edge(30, "FULL", () -> {
            ColdRows x = full();
            T.due("a thirteenth", x.meter(11), FULL);
            T.due("under none", x.meter(NONE), FULL);
            T.due("there are 12", x.count(4), 12);
            T.due("no thirteenth", x.reads(12, 1), BAD);
        });
        T.edge(30, "BAD; FULL: the first that fits", () -> {
            T.due("above", full().meter(12), BAD);
            T.due("below", full().meter(-1), BAD);
        });
        T.edge(30, "BAD: refused, it changes nothing", () -> {
            ColdRows x = with(NONE);
            x.meter(1);
            x.meter(-1);
            x.meter(-5);
            T.due("count(4)", x.count(4), 1);
            T.due("the next number", x.meter(0), 1);
        });
        T.edge(30, "LOST (at first)", () -> {
            ColdRows x = with(NONE);
            T.due("known(0)", x.known(0), NOT);
            T.due("loses(0)", x.loses(0), 0);
            T.due("count(5)", x.count(5), 0);
        });
    }

    // ---- promise 31

    private static void reading() {
        T.edge(31, "a NUMBER (-100000 to 100000)", () -> {
            T.range(v -> with(NONE).reads(0, v), -100000, 100000, 1);
            ColdRows x = with(NONE);
            x.reads(0, 100000);
            T.due("the most is KNOWN", x.known(0), 100000);
            x.reads(0, -100000);
            T.due("the least is KNOWN", x.known(0), -100000);
            x.reads(0, 0);
            T.due("0 is KNOWN", x.known(0), 0);
        });
        T.edge(31, "there is no such METER", () -> {
            T.range(m -> with(NONE, 0, 1).reads(m, 5), 0, 2, 1);
            T.due("no METERS", new ColdRows().reads(0, 5), BAD);
            T.due("NONE", with(NONE).reads(NONE, 5), BAD);
            T.due("the last of 12", full().reads(11, 5), 1);
            T.due("behind 12", full().reads(12, 5), BAD);
        });
        T.edge(31, "BAD: refused, it changes nothing", () -> {
            ColdRows x = with(NONE, NONE);
            x.reads(0, 7);
            x.reads(0, 100001);
            x.reads(0, -100001);
            x.reads(2, 9);
            x.reads(1, 100001);
            dueKnown(x, "as ahead", 7, NOT);
            T.due("1 has not read", x.loses(1), 0);
            T.due("the next METER has not, either", x.meter(NONE), 2);
            T.due("known(2)", x.known(2), NOT);
        });
        T.edge(31, "it reads another NUMBER", () -> {
            ColdRows x = with(NONE);
            T.due("first", x.reads(0, 1), 1);
            T.due("then", x.reads(0, 2), 1);
            T.due("known(0)", x.known(0), 2);
        });
    }

    // ---- promise 32

    private static void losing() {
        T.edge(32, "whether it had read (1, 0)", () -> {
            ColdRows x = with(NONE);
            T.due("never", x.loses(0), 0);
            x.reads(0, 0);
            T.due("it had read 0", x.loses(0), 1);
            T.due("no more", x.loses(0), 0);
            T.due("known(0)", x.known(0), NOT);
        });
        T.edge(32, "KNOWN, but it had not read", () -> {
            ColdRows x = with(NONE, 0);
            x.reads(1, 6);
            T.due("it is KNOWN", x.known(0), 6);
            T.due("it had not read", x.loses(0), 0);
            T.due("it is KNOWN still", x.known(0), 6);
        });
        T.edge(32, "there is no such METER", () -> {
            T.range(m -> with(NONE, 0, 1).loses(m), 0, 2, 0);
            T.due("no METERS", new ColdRows().loses(0), BAD);
            T.due("NONE", with(NONE).loses(NONE), BAD);
            T.due("the last of 12", full().loses(11), 0);
            T.due("behind 12", full().loses(12), BAD);
        });
        T.edge(32, "BAD: refused, it changes nothing", () -> {
            ColdRows x = with(NONE, NONE);
            x.reads(0, 3);
            x.reads(1, 4);
            x.loses(2);
            x.loses(-1);
            dueKnown(x, "as ahead", 3, 4);
        });
    }

    // ---- promise 33

    private static void known() {
        T.edge(33, "1000000000: there is none such", () -> {
            T.outside(m -> {
                ColdRows x = with(NONE, NONE);
                x.reads(0, 1);
                x.reads(1, 2);
                return x.known(m);
            }, 0, 1, NOT);
            T.due("no METERS", new ColdRows().known(0), NOT);
            T.due("NONE", with(NONE).known(NONE), NOT);
            T.due("behind 12", full().known(12), NOT);
        });
        T.edge(33, "1000000000: it is not", () -> dueKnown(with(NONE, 0, 0), "all LOST", NOT, NOT, NOT));
        T.edge(33, "all right under it (one at least) are KNOWN (their sum)", () -> {
            ColdRows x = with(NONE, 0, 0);
            T.due("one without any under it", x.known(2), NOT);
            x.reads(1, 5);
            T.due("one of two", x.known(0), NOT);
            x.reads(2, -5);
            T.due("both: 0", x.known(0), 0);
            ColdRows y = with(NONE, 0);
            y.reads(1, -3);
            T.due("one alone", y.known(0), -3);
        });
        T.edge(33, "right under it, not further down", () -> {
            ColdRows x = with(NONE, 0, 1);
            x.reads(1, 5);
            x.reads(2, 7);
            T.due("METER 2 is not right under 0", x.known(0), 5);
        });
        T.edge(33, "the one above it is KNOWN, and all others right under that", () -> {
            ColdRows x = with(NONE, 0, 0, 0);
            x.reads(0, 10);
            dueKnown(x, "three are LOST", 10, NOT, NOT, NOT);
            x.reads(1, 1);
            dueKnown(x, "two are LOST", 10, 1, NOT, NOT);
            x.reads(3, 20);
            dueKnown(x, "one is LOST", 10, 1, -11, 20);
            x.loses(0);
            dueKnown(x, "the one above is LOST, too", NOT, 1, NOT, 20);
        });
        T.edge(33, "no others right under that", () -> {
            ColdRows x = with(NONE, 0);
            x.reads(0, 10);
            dueKnown(x, "the only one", 10, 10);
        });
        T.edge(33, "under none", () -> {
            ColdRows x = with(NONE, NONE);
            x.reads(0, 10);
            dueKnown(x, "another one under none", 10, NOT);
        });
        T.edge(33, "KNOWN are NUMBERS read", () -> {
            ColdRows x = with(NONE, 0, 0);
            x.reads(0, 10);
            x.reads(1, 1);
            x.reads(2, 2);
            dueKnown(x, "they stay, though the sum is another one", 10, 1, 2);
        });
        T.edge(33, "the most of all", () -> {
            ColdRows x = with(NONE, 0, 0, 0, 0, 0, 0, 0, 0, 0, 0, 0);
            for (int m = 1; m < 12; m++) {
                x.reads(m, 100000);
            }
            T.due("the sum of eleven", x.known(0), 1100000);
            for (int m = 1; m < 11; m++) {
                x.reads(m, -100000);
            }
            x.reads(0, 100000);
            x.loses(11);
            T.due("100000 less ten of -100000", x.known(11), 1100000);
        });
    }

    private static void rounds() {
        T.edge(33, "else, if the one above it is KNOWN", () -> {
            ColdRows x = with(NONE, 0, 1);
            x.reads(0, 10);
            x.reads(2, 4);
            dueKnown(x, "from below ahead of from above", 10, 4, 4);
        });
        T.edge(33, "by numbers from 0 on", () -> {
            ColdRows x = with(NONE, 0, 1, 2);
            x.reads(0, 10);
            x.reads(3, 4);
            dueKnown(x, "1 comes from above ahead of 2", 10, 10, 4, 4);
            ColdRows y = with(NONE, 0, 0, 2, 1);
            y.reads(0, 10);
            y.reads(3, 4);
            dueKnown(y, "1 waits for 2, which comes from below", 10, 6, 4, 4, 6);
        });
        T.edge(33, "in a round: one that came to be KNOWN counts for those behind it", () -> {
            ColdRows x = with(NONE, 0, 1, 2, 3);
            x.reads(0, 10);
            x.reads(4, 4);
            dueKnown(x, "2 comes from 1 ahead of 3", 10, 10, 10, 4, 4);
        });
        T.edge(33, "in a round: it goes on to its end", () -> {
            ColdRows x = with(NONE, 0, 0, 1, 2, 3);
            x.reads(0, 10);
            x.reads(4, 4);
            x.reads(5, 1);
            dueKnown(x, "2, then 3, and 1 in the next round", 10, 1, 4, 1, 4, 1);
        });
        T.edge(33, "again and again, as long as one more comes to be KNOWN", () -> {
            ColdRows x = full();
            x.reads(11, 3);
            dueKnown(x, "up, one in a round", 3, 3, 3, 3, 3, 3, 3, 3, 3, 3, 3, 3);
            ColdRows y = full();
            y.reads(0, 3);
            dueKnown(y, "down", 3, 3, 3, 3, 3, 3, 3, 3, 3, 3, 3, 3);
            ColdRows z = full();
            z.reads(6, 3);
            dueKnown(z, "both ways", 3, 3, 3, 3, 3, 3, 3, 3, 3, 3, 3, 3);
        });
        T.edge(33, "what is KNOWN is found anew in each call", () -> {
            ColdRows x = with(NONE, 0);
            x.reads(1, 5);
            dueKnown(x, "from 1", 5, 5);
            x.reads(1, 6);
            dueKnown(x, "from 1 anew", 6, 6);
            x.loses(1);
            dueKnown(x, "all LOST", NOT, NOT);
            x.reads(0, 7);
            dueKnown(x, "from 0", 7, 7);
            x.meter(0);
            dueKnown(x, "another one came under 0", 7, NOT, NOT);
        });
    }

    // ---- promise 34

    private static void quarrels() {
        T.edge(34, "NONE", () -> {
            T.due("no METERS", new ColdRows().quarrel(), NONE);
            T.due("all LOST", full().quarrel(), NONE);
        });
        T.edge(34, "if it is KNOWN", () -> {
            ColdRows x = with(NONE, 0, 0);
            x.reads(1, 1);
            x.reads(2, 2);
            T.due("it is the sum, being LOST", x.quarrel(), NONE);
            x.reads(0, 4);
            T.due("it reads another one", x.quarrel(), 0);
            x.reads(0, 3);
            T.due("it reads the sum", x.quarrel(), NONE);
        });
        T.edge(34, "all right under it (one at least) are", () -> {
            ColdRows x = with(NONE, 0, 0, 0);
            x.reads(0, 5);
            x.reads(1, 9);
            T.due("two are not KNOWN", x.quarrel(), NONE);
            x.reads(2, 9);
            T.due("the last comes to be what is left", x.quarrel(), NONE);
            x.reads(3, 9);
            T.due("all read", x.quarrel(), 0);
            ColdRows y = with(NONE);
            y.reads(0, 5);
            T.due("none under it", y.quarrel(), NONE);
        });
        T.edge(34, "their sum is another one", () -> {
            int[] seconds = {-1, 0, 1};
            for (int v : seconds) {
                ColdRows x = with(NONE, 0, 0);
                x.reads(0, 0);
                x.reads(1, 0);
                x.reads(2, v);
                T.due("0, 0 and " + v, x.quarrel(), v == 0 ? NONE : 0);
            }
        });
        T.edge(34, "The first METER that QUARRELS", () -> {
            ColdRows x = with(NONE, NONE, 1, 0);
            for (int m = 0; m < 4; m++) {
                x.reads(m, m);
            }
            T.due("0 with 3, 1 with 2", x.quarrel(), 0);
            x.reads(0, 3);
            T.due("1 with 2", x.quarrel(), 1);
            x.reads(1, 2);
            T.due("none", x.quarrel(), NONE);
        });
        T.edge(34, "one that is KNOWN by others", () -> {
            ColdRows x = with(NONE, 0, 1, 2);
            x.reads(0, 10);
            x.reads(3, 4);
            T.due("1 is 10 by 0, 2 is 4 by 3", x.quarrel(), 1);
            ColdRows y = with(NONE, 0, 1);
            y.reads(0, 10);
            y.reads(2, 4);
            T.due("1 is 4 by 2, 0 reads 10", y.quarrel(), 0);
        });
        T.edge(34, "the last that can", () -> {
            ColdRows x = full();
            x.reads(10, 1);
            T.due("11 is LOST", x.quarrel(), NONE);
            x.reads(11, 2);
            T.due("11 reads another one", x.quarrel(), 10);
        });
    }

    // ---- promise 35

    private static void counts() {
        T.edge(35, "what 0 to 8. BAD", () -> {
            T.outside(what -> new ColdRows().count(what), 0, 8, BAD);
            T.outside(what -> full().count(what), 0, 8, BAD);
        });
        T.edge(35, "of none", () -> {
            int[] due = {0, 0, 0, 0, 0, 0, NONE, 20, 1};
            for (int what = 0; what <= 8; what++) {
                T.due("count(" + what + ")", new ColdRows().count(what), due[what]);
            }
        });
        T.edge(35, "of all there can be", () -> {
            ColdRows x = new ColdRows();
            for (int n = 0; n < 17; n++) {
                x.rack(1, 20000, 1, 1);
                x.feed(NONE, 1);
                x.machine(1, 1);
                x.cause(1);
                x.meter(NONE);
                x.reads(n, n);
            }
            x.sheet(0, 0, 64);
            x.set(30, 5);
            int[] due = {8, 16, 5, 10, 12, 12, 64, 30, 5};
            for (int what = 0; what <= 8; what++) {
                T.due("count(" + what + ")", x.count(what), due[what]);
            }
        });
        T.edge(35, "METERS that are KNOWN", () -> {
            ColdRows x = with(NONE, 0, 0, NONE);
            T.due("all LOST", x.count(5), 0);
            x.reads(1, 1);
            T.due("one reads", x.count(5), 1);
            x.reads(0, 1);
            T.due("another comes to be KNOWN", x.count(5), 3);
            x.loses(1);
            T.due("one reads", x.count(5), 1);
        });
        T.edge(35, "CELLS of SHEET 0 (NONE: nothing)", () -> {
            ColdRows x = new ColdRows();
            for (int k = 1; k <= 3; k++) {
                x.sheet(k, 0, k);
            }
            T.due("the others do not count", x.count(6), NONE);
            x.sheet(0, 0, 0);
            T.due("no CELLS", x.count(6), 0);
            x.sheet(0, 2, 64);
            T.due("all there can be", x.count(6), 64);
        });
    }
}
