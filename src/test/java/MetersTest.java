/** Promises 30 to 35: meters some of which are lost, and counts. */
public final class MetersTest {
    private static final Checks T = new Checks();
    private static final int BAD = -1, FULL = -3, NONE = -4, NOT = 1000000000;
    private static final int LOW = Integer.MIN_VALUE, HIGH = Integer.MAX_VALUE;

    public static void main(String[] args) {
        meters();
        reading();
        losing();
        known();
        chains();
        orderOfRounds();
        quarrels();
        counts();
        T.end();
    }

    private static ColdRows with(int... aboves) {
        ColdRows x = new ColdRows();
        for (int above : aboves) {
            x.meter(above);
        }
        return x;
    }

    private static void dueKnown(ColdRows x, String what, int... due) {
        for (int m = 0; m < due.length; m++) {
            T.due(what + ": known(" + m + ")", x.known(m), due[m]);
        }
    }

    private static void meters() {
        T.part("promise 30");
        ColdRows x = new ColdRows();
        T.due("none came ahead", x.meter(0), BAD);
        T.due("under none", x.meter(NONE), 0);
        int[] bad = {1, -1, -2, -3, -5, LOW, HIGH};
        for (int above : bad) {
            T.due("as not told", x.meter(above), BAD);
        }
        T.due("refused changes nothing", x.count(4), 1);
        for (int m = 1; m < 12; m++) {
            T.due("numbered as they come", x.meter(m - 1), m);
        }
        T.due("the thirteenth", x.meter(NONE), FULL);
        T.due("BAD ahead of FULL", x.meter(12), BAD);
        T.due("count", x.count(4), 12);
    }

    private static void reading() {
        T.part("promise 31");
        ColdRows x = new ColdRows();
        T.due("no such", x.reads(0, 1), BAD);
        x.meter(NONE);
        T.due("most", x.reads(0, 100000), 1);
        T.due("read", x.known(0), 100000);
        T.due("least", x.reads(0, -100000), 1);
        T.due("above", x.reads(0, 100001), BAD);
        T.due("below", x.reads(0, -100001), BAD);
        T.due("far", x.reads(0, LOW), BAD);
        T.due("no such", x.reads(1, 1), BAD);
        T.due("below 0", x.reads(-1, 1), BAD);
        T.due("refused changes nothing", x.known(0), -100000);
        T.due("0 is a NUMBER", x.reads(0, 0), 1);
        T.due("0 is KNOWN", x.known(0), 0);
    }

    private static void losing() {
        T.part("promise 32");
        ColdRows x = new ColdRows();
        T.due("no such", x.loses(0), BAD);
        x.meter(NONE);
        T.due("LOST at first", x.loses(0), 0);
        x.reads(0, 5);
        T.due("had read", x.loses(0), 1);
        T.due("had not", x.loses(0), 0);
        T.due("not KNOWN", x.known(0), NOT);
        x.meter(0);
        x.reads(1, 6);
        T.due("KNOWN but LOST", x.known(0), 6);
        T.due("KNOWN is not read", x.loses(0), 0);
        T.due("below 0", x.loses(-1), BAD);
        T.due("no such", x.loses(2), BAD);
    }

    private static void known() {
        T.part("promise 33");
        ColdRows x = new ColdRows();
        T.due("no such", x.known(0), NOT);
        T.due("below", x.known(-1), NOT);
        T.due("NONE", x.known(NONE), NOT);
        T.due("far", x.known(HIGH), NOT);
        x = with(NONE, 0, 0, 0, NONE);
        dueKnown(x, "all LOST", NOT, NOT, NOT, NOT, NOT);
        x.reads(1, 5);
        x.reads(2, -7);
        dueKnown(x, "one under it is LOST", NOT, 5, -7, NOT, NOT);
        x.reads(3, 1);
        dueKnown(x, "the sum", -1, 5, -7, 1, NOT);
        x.loses(2);
        x.reads(0, 100);
        dueKnown(x, "that less their sum", 100, 5, 94, 1, NOT);
        x.loses(1);
        dueKnown(x, "two are LOST", 100, NOT, NOT, 1, NOT);
        x.reads(4, 3);
        dueKnown(x, "one by itself", 100, NOT, NOT, 1, 3);
        T.due("behind the last", x.known(5), NOT);
        ColdRows y = with(NONE, 0, 0);
        y.reads(0, 10);
        y.reads(1, 4);
        y.reads(2, 4);
        dueKnown(y, "what is read stays as it is read", 10, 4, 4);
    }

    private static void chains() {
        T.part("promise 33, again and again");
        ColdRows down = with(NONE, 0, 1, 2, 3, 4, 5, 6, 7, 8, 9, 10);
        down.reads(0, 7);
        dueKnown(down, "down a chain", 7, 7, 7, 7, 7, 7, 7, 7, 7, 7, 7, 7);
        down.loses(0);
        down.reads(11, -8);
        dueKnown(down, "up a chain", -8, -8, -8, -8, -8, -8, -8, -8, -8, -8, -8, -8);
        down.loses(11);
        down.reads(5, 3);
        dueKnown(down, "both ways", 3, 3, 3, 3, 3, 3, 3, 3, 3, 3, 3, 3);
        ColdRows x = with(NONE, 0, 0, 1, 1, 2, 2);
        x.reads(0, 100);
        x.reads(3, 10);
        x.reads(4, 20);
        x.reads(5, 1);
        dueKnown(x, "up, over and down", 100, 30, 70, 10, 20, 1, 69);
        T.due("all are KNOWN", x.count(5), 7);
    }

    private static void orderOfRounds() {
        T.part("promise 33, by numbers");
        ColdRows x = with(NONE, 0, 1);
        x.reads(0, 10);
        x.reads(2, 4);
        dueKnown(x, "from below ahead of from above", 10, 4, 4);
        T.due("and so it QUARRELS above", x.quarrel(), 0);
        ColdRows y = with(NONE, 0, 1, 2);
        y.reads(0, 10);
        y.reads(3, 4);
        dueKnown(y, "1 has its turn while 2 is not KNOWN", 10, 10, 4, 4);
        T.due("the first that QUARRELS", y.quarrel(), 1);
    }

    private static void quarrels() {
        T.part("promise 34");
        ColdRows x = with(NONE, 0, 0);
        T.due("all LOST", x.quarrel(), NONE);
        x.reads(0, 5);
        x.reads(1, 9);
        T.due("one is LOST", x.quarrel(), NONE);
        x.reads(2, -4);
        T.due("the sum is right", x.quarrel(), NONE);
        x.reads(2, -3);
        T.due("another one", x.quarrel(), 0);
        x.loses(0);
        T.due("LOST is the sum", x.quarrel(), NONE);
        ColdRows y = with(NONE, NONE, 1, 0);
        y.reads(0, 1);
        y.reads(1, 1);
        y.reads(2, 2);
        T.due("none under it but a LOST one", y.quarrel(), 1);
        y.reads(3, 3);
        T.due("the first of two", y.quarrel(), 0);
        ColdRows z = with(NONE);
        z.reads(0, 5);
        T.due("none under it", z.quarrel(), NONE);
    }

    private static void counts() {
        T.part("promise 35");
        ColdRows x = new ColdRows();
        x.rack(1, 20000, 1, 1);
        for (int n = 0; n < 2; n++) {
            x.feed(NONE, 1);
        }
        for (int n = 0; n < 3; n++) {
            x.machine(1, 1);
        }
        for (int n = 0; n < 4; n++) {
            x.cause(1);
        }
        for (int n = 0; n < 5; n++) {
            x.meter(NONE);
        }
        x.reads(4, 1);
        x.meter(4);
        x.sheet(0, 2, 7);
        x.sheet(1, 2, 9);
        x.set(25, 4);
        int[] due = {1, 2, 3, 4, 6, 2, 7, 25, 4};
        for (int what = 0; what < due.length; what++) {
            T.due("count(" + what + ")", x.count(what), due[what]);
        }
        int[] bad = {-1, 9, LOW, HIGH};
        for (int what : bad) {
            T.due("no such what", x.count(what), BAD);
        }
    }
}
