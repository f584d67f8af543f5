/** Promises 20 to 25: power through feeds that may fail. */
public final class FeedsTest {
    private static final Checks T = new Checks();
    private static final int BAD = -1, STATE = -2, FULL = -3, NONE = -4;
    private static final int LOW = Integer.MIN_VALUE, HIGH = Integer.MAX_VALUE;

    public static void main(String[] args) {
        feeds();
        plugs();
        fails();
        through();
        halves();
        states();
        weak();
        weakByOver();
        T.end();
    }

    private static void feeds() {
        T.part("promise 20");
        ColdRows x = new ColdRows();
        T.due("none came ahead", x.feed(0, 1), BAD);
        T.due("least", x.feed(NONE, 0), 0);
        T.due("most", x.feed(0, 10000), 1);
        int[][] bad = {{2, 1}, {-1, 1}, {-2, 1}, {-3, 1}, {-5, 1}, {HIGH, 1}, {LOW, 1}, {0, -1},
            {0, 10001}, {NONE, -1}, {NONE, HIGH}};
        for (int[] b : bad) {
            T.due("as not told", x.feed(b[0], b[1]), BAD);
        }
        T.due("refused changes nothing", x.count(1), 2);
        for (int f = 2; f < 16; f++) {
            T.due("numbered as they come", x.feed(f - 1, 1), f);
        }
        T.due("the seventeenth", x.feed(NONE, 1), FULL);
        T.due("BAD ahead of FULL", x.feed(16, 1), BAD);
        T.due("count", x.count(1), 16);
        x.rack(9, 20000, 1, 1);
        x.plug(0, 0, 15);
        T.due("through them all", x.through(0), 9);
        x.fail(0, true);
        T.due("all are DEAD", x.state(4), 16);
    }

    private static void plugs() {
        T.part("promise 21");
        ColdRows x = new ColdRows();
        x.feed(NONE, 100);
        x.feed(NONE, 100);
        T.due("no such RACK", x.plug(0, 0, 0), BAD);
        x.rack(10, 20000, 1, 1);
        x.rack(10, 20000, 1, 1);
        T.due("no more of none", x.plug(0, 0, NONE), NONE);
        T.due("first", x.plug(0, 0, 0), NONE);
        T.due("the other one is there", x.plug(0, 1, 0), STATE);
        T.due("there itself already", x.plug(0, 0, 0), 0);
        T.due("second", x.plug(0, 1, 1), NONE);
        T.due("the other one is there", x.plug(0, 0, 1), STATE);
        T.due("refused changes nothing", x.plug(0, 0, NONE), 0);
        T.due("now it is free", x.plug(0, 1, 0), 1);
        T.due("no more", x.plug(0, 1, NONE), 0);
        T.due("no more again", x.plug(0, 1, NONE), NONE);
        T.due("another RACK may be there", x.plug(1, 1, 0), NONE);
        int[][] bad = {{2, 0, 0}, {-1, 0, 0}, {0, 2, 0}, {0, -1, 0}, {0, 0, 2}, {0, 0, -1},
            {0, 0, -3}, {0, 0, -5}, {LOW, 0, 0}, {0, HIGH, 0}, {0, 0, HIGH}, {1, 2, 0}};
        for (int[] b : bad) {
            T.due("as not told", x.plug(b[0], b[1], b[2]), BAD);
        }
    }

    private static void fails() {
        T.part("promise 22");
        ColdRows x = new ColdRows();
        T.due("no such", x.fail(0, true), BAD);
        for (int f = 0; f < 16; f++) {
            x.feed(f == 0 ? NONE : f / 2, 1);
        }
        T.due("not failed", x.fail(0, false), 0);
        T.due("fails", x.fail(15, true), 0);
        T.due("had failed", x.fail(15, true), 1);
        T.due("one is DEAD", x.state(4), 1);
        T.due("mended", x.fail(15, false), 1);
        T.due("had not", x.fail(15, false), 0);
        x.fail(1, true);
        T.due("DEAD by one above has not FAILED", x.fail(3, false), 0);
        T.due("0 stands", x.fail(0, false), 0);
        T.due("no such", x.fail(16, true), BAD);
        T.due("below", x.fail(-1, true), BAD);
        T.due("NONE is no FEED", x.fail(NONE, true), BAD);
    }

    private static void through() {
        T.part("promise 23");
        ColdRows x = new ColdRows();
        T.due("no such", x.through(0), BAD);
        x.feed(NONE, 1);
        x.feed(0, 1);
        x.feed(1, 1);
        x.feed(NONE, 1);
        T.due("nothing", x.through(0), 0);
        x.rack(7, 20000, 1, 1);
        x.plug(0, 1, 2);
        int[] second = {7, 7, 7, 0};
        dueThrough(x, "all through the second PLUG", second);
        x.plug(0, 0, 3);
        int[] both = {3, 3, 3, 4};
        dueThrough(x, "a half each, the first one's up", both);
        x.fail(1, true);
        int[] middle = {0, 0, 0, 7};
        dueThrough(x, "the middle one FAILED", middle);
        x.fail(3, true);
        int[] dead = {0, 0, 0, 0};
        dueThrough(x, "DARK", dead);
        x.fail(1, false);
        int[] back = {7, 7, 7, 0};
        dueThrough(x, "mended", back);
        x.load(0, 1000);
        x.fail(3, false);
        int[] more = {500, 500, 500, 500};
        dueThrough(x, "another LOAD", more);
        T.due("below", x.through(-1), BAD);
        T.due("far", x.through(4), BAD);
        T.due("asked again", x.through(0), 500);
    }

    private static void dueThrough(ColdRows x, String what, int[] due) {
        for (int f = 0; f < due.length; f++) {
            T.due(what + ": through(" + f + ")", x.through(f), due[f]);
        }
    }

    private static void halves() {
        T.part("promise 23, both under one");
        ColdRows x = new ColdRows();
        x.feed(NONE, 1);
        x.feed(0, 1);
        x.feed(0, 1);
        x.rack(5, 20000, 1, 1);
        x.rack(1, 20000, 1, 1);
        x.plug(0, 0, 2);
        x.plug(0, 1, 1);
        x.plug(1, 0, 0);
        x.plug(1, 1, 1);
        int[] due = {6, 2, 3};
        dueThrough(x, "halves join above", due);
        x.fail(1, true);
        int[] then = {6, 0, 5};
        dueThrough(x, "a FEED alone", then);
    }

    private static void states() {
        T.part("promise 24");
        ColdRows x = new ColdRows();
        int[] none = {0, NONE, 0, NONE, 0};
        dueStates(x, "new", none);
        x.rack(0, 20000, 1, 1);
        x.rack(10, 20000, 1, 1);
        int[] unplugged = {0, NONE, 2, 0, 0};
        dueStates(x, "without PLUGS they are DARK", unplugged);
        x.feed(NONE, 20);
        x.feed(0, 10);
        x.feed(0, 9);
        x.plug(0, 0, 1);
        int[] second = {0, NONE, 1, 1, 0};
        dueStates(x, "the second is DARK", second);
        x.plug(1, 1, 1);
        int[] even = {0, NONE, 0, NONE, 0};
        dueStates(x, "as much as its ROOM is not OVER", even);
        x.plug(1, 1, 2);
        int[] over = {1, 2, 0, NONE, 0};
        dueStates(x, "OVER", over);
        x.load(0, 11);
        int[] all = {3, 0, 0, NONE, 0};
        dueStates(x, "all are OVER", all);
        x.fail(2, true);
        int[] failed = {1, 1, 1, 1, 1};
        dueStates(x, "a DEAD one is not OVER", failed);
        x.fail(0, true);
        int[] dead = {0, NONE, 2, 0, 3};
        dueStates(x, "DEAD by the one above", dead);
        x.fail(0, false);
        x.fail(2, false);
        dueStates(x, "mended", all);
        int[] bad = {-1, 5, LOW, HIGH};
        for (int what : bad) {
            T.due("no such what", x.state(what), BAD);
        }
    }

    private static void dueStates(ColdRows x, String what, int[] due) {
        for (int s = 0; s < due.length; s++) {
            T.due(what + ": state(" + s + ")", x.state(s), due[s]);
        }
    }

    private static void weak() {
        T.part("promise 25");
        ColdRows x = new ColdRows();
        T.due("no FEEDS", x.weak(), NONE);
        x.feed(NONE, 1000);
        x.feed(NONE, 1000);
        x.rack(10, 20000, 1, 1);
        T.due("DARK already", x.weak(), NONE);
        x.plug(0, 0, 1);
        T.due("DARK by it", x.weak(), 1);
        x.plug(0, 1, 0);
        T.due("the other one bears it", x.weak(), NONE);
        x.fail(0, true);
        T.due("the other one FAILED", x.weak(), 1);
        x.fail(1, true);
        T.due("all FAILED", x.weak(), NONE);
        x.fail(0, false);
        T.due("0 alone", x.weak(), 0);
        T.due("nothing has changed", x.fail(0, false), 0);
        T.due("nothing has changed", x.fail(1, true), 1);
    }

    private static void weakByOver() {
        T.part("promise 25, OVER");
        ColdRows x = new ColdRows();
        x.feed(NONE, 9);
        x.feed(NONE, 10);
        x.feed(1, 10);
        x.rack(10, 20000, 1, 1);
        x.plug(0, 0, 0);
        x.plug(0, 1, 2);
        T.due("0 would be OVER by 1", x.weak(), 1);
        x.fail(1, true);
        T.due("0 is OVER now; DARK by 0", x.weak(), 0);
        x.fail(1, false);
        x.fail(0, true);
        T.due("DARK by 1", x.weak(), 1);
        x.rack(100, 20000, 1, 1);
        x.fail(0, false);
        x.plug(1, 0, 0);
        x.plug(0, 0, NONE);
        T.due("a RACK DARK by 0, a FEED OVER already", x.weak(), 0);
        x.plug(1, 1, 1);
        x.plug(0, 0, 0);
        T.due("all are OVER now, none gets DARK", x.weak(), NONE);
        ColdRows y = new ColdRows();
        y.feed(NONE, 5);
        y.feed(NONE, 5);
        y.rack(10, 20000, 1, 1);
        y.plug(0, 0, 0);
        y.plug(0, 1, 1);
        T.due("1 would be OVER by 0", y.weak(), 0);
    }
}
