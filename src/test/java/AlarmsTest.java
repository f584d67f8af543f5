/** Promises 26 to 29: alarms and their causes. */
public final class AlarmsTest {
    private static final Checks T = new Checks();
    private static final int BAD = -1, FULL = -3, NONE = -4;
    private static final int LOW = Integer.MIN_VALUE, HIGH = Integer.MAX_VALUE;

    public static void main(String[] args) {
        causes();
        seen();
        roots();
        manyRoots();
        strange();
        T.end();
    }

    private static void causes() {
        T.part("promise 26");
        ColdRows x = new ColdRows();
        int[] bad = {0, -1, 65536, LOW, HIGH};
        for (int alarms : bad) {
            T.due("as not told", x.cause(alarms), BAD);
        }
        T.due("refused changes nothing", x.count(3), 0);
        T.due("least", x.cause(1), 0);
        T.due("most", x.cause(65535), 1);
        for (int c = 2; c < 10; c++) {
            T.due("numbered as they come", x.cause(1), c);
        }
        T.due("the eleventh", x.cause(1), FULL);
        T.due("BAD ahead of FULL", x.cause(0), BAD);
        T.due("count", x.count(3), 10);
        x.seen(65535);
        T.due("all bits", x.roots(), 2);
    }

    private static void seen() {
        T.part("promise 27");
        ColdRows x = new ColdRows();
        T.due("none at first", x.seen(65535), 0);
        T.due("above", x.seen(65536), BAD);
        T.due("below", x.seen(-1), BAD);
        T.due("refused changes nothing", x.seen(0), 65535);
        T.due("what was", x.seen(9), 0);
        T.due("they are told anew, not added", x.seen(6), 9);
        T.due("what was", x.seen(6), 6);
    }

    private static void roots() {
        T.part("promise 28");
        ColdRows x = new ColdRows();
        T.due("none SEEN", x.roots(), 0);
        x.seen(1);
        T.due("no CAUSES", x.roots(), NONE);
        x.cause(3);
        T.due("it makes one that is not SEEN", x.roots(), NONE);
        x.cause(1);
        T.due("this one", x.roots(), 2);
        x.seen(3);
        T.due("alone", x.roots(), 1);
        x.seen(2);
        T.due("none makes it alone", x.roots(), NONE);
        x.cause(2);
        T.due("the new one", x.roots(), 4);
        x.seen(3);
        T.due("one ahead of two", x.roots(), 1);
        x.seen(7);
        T.due("one is left", x.roots(), NONE);
        x.seen(0);
        T.due("none SEEN", x.roots(), 0);
    }

    private static void manyRoots() {
        T.part("promise 28, of several");
        ColdRows x = new ColdRows();
        for (int c = 0; c < 10; c++) {
            x.cause(1 << c);
        }
        x.seen(1023);
        T.due("all ten", x.roots(), 1023);
        x.seen(512);
        T.due("the last alone", x.roots(), 512);
        ColdRows y = new ColdRows();
        int[] makes = {1, 2, 4, 3, 6, 5};
        for (int alarms : makes) {
            y.cause(alarms);
        }
        y.seen(7);
        T.due("of two each the least number: 4 with 3", y.roots(), 12);
        y.cause(7);
        T.due("fewest, though the number is greater", y.roots(), 64);
        y.cause(7);
        T.due("the least of equal ones", y.roots(), 64);
    }

    private static void strange() {
        T.part("promise 29");
        ColdRows x = new ColdRows();
        T.due("none", x.strange(), 0);
        x.seen(65535);
        T.due("all of them", x.strange(), 65535);
        x.cause(1);
        x.cause(6);
        T.due("less those made", x.strange(), 65528);
        x.seen(3);
        T.due("one that makes others too does not count", x.strange(), 2);
        x.seen(8);
        T.due("made by none", x.strange(), 8);
        x.seen(7);
        T.due("all made", x.strange(), 0);
        x.seen(6);
        T.due("without 0", x.strange(), 0);
        ColdRows y = new ColdRows();
        y.cause(3);
        y.seen(2);
        T.due("the first makes another too", y.strange(), 2);
    }
}
