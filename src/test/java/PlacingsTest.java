/** Promises 15 to 19: machines and their placings. */
public final class PlacingsTest {
    private static final Checks T = new Checks();
    private static final int BAD = -1, FULL = -3, NONE = -4;
    private static final int LOW = Integer.MIN_VALUE, HIGH = Integer.MAX_VALUE;

    public static void main(String[] args) {
        machines();
        leaving();
        placed();
        ties();
        warmest();
        placings();
        T.end();
    }

    private static void machines() {
        T.part("promise 15");
        ColdRows x = new ColdRows();
        int[][] bad = {{0, 1}, {301, 1}, {1, 0}, {1, 11}, {LOW, 1}, {1, HIGH}};
        for (int[] b : bad) {
            T.due("as not told", x.machine(b[0], b[1]), BAD);
        }
        T.due("refused changes nothing", x.count(2), 0);
        T.due("least", x.machine(1, 1), 0);
        T.due("most", x.machine(300, 10), 1);
        for (int m = 2; m < 5; m++) {
            T.due("numbered as they come", x.machine(5, 5), m);
        }
        T.due("the sixth", x.machine(1, 1), FULL);
        T.due("BAD ahead of FULL", x.machine(0, 1), BAD);
        T.due("count", x.count(2), 5);
    }

    private static void leaving() {
        T.part("promise 16");
        ColdRows x = new ColdRows();
        T.due("none", x.leave(), NONE);
        x.rack(0, 20000, 1, 20);
        x.share(0, 0, 1);
        x.machine(100, 1);
        x.machine(200, 1);
        T.due("the latest", x.leave(), 1);
        T.due("it gives off no more", x.warmest(), 20100);
        T.due("the number is free again", x.machine(50, 1), 1);
        T.due("the new one counts", x.warmest(), 20150);
        T.due("1", x.leave(), 1);
        T.due("0", x.leave(), 0);
        T.due("none", x.leave(), NONE);
        T.due("count", x.count(2), 0);
    }

    private static void placed() {
        T.part("promise 17");
        ColdRows x = new ColdRows();
        T.due("no such", x.placed(0), BAD);
        x.machine(300, 2);
        T.due("no RACKS", x.placed(0), NONE);
        T.due("no such ahead of none", x.placed(1), BAD);
        x.rack(0, 20000, 1, 1);
        T.due("no RACK has the PLACES", x.placed(0), NONE);
        x.rack(0, 20000, 1, 2);
        x.rack(0, 20000, 1, 9);
        T.due("the least RACK that has them", x.placed(0), 1);
        x.share(0, 1, 5);
        T.due("the one that warms none", x.placed(0), 2);
        x.share(2, 2, 5);
        T.due("equal again", x.placed(0), 1);
        x.set(20, 5);
        x.share(2, 2, 4);
        T.due("the one that warms less", x.placed(0), 2);
        T.due("below", x.placed(-1), BAD);
        T.due("the RACKS' LOADS stay", x.load(2, 0), 0);
        T.due("far", x.placed(HIGH), BAD);
    }

    private static void ties() {
        T.part("promise 17, of several");
        ColdRows x = new ColdRows();
        for (int r = 0; r < 3; r++) {
            x.rack(0, 20000, 1, 2);
            x.share(r, r, 1);
        }
        x.machine(10, 1);
        x.machine(20, 1);
        x.machine(30, 1);
        // 30 alone is the least greatest one, and 10 and 20 together come to no more.
        int[] due = {0, 0, 1};
        for (int m = 0; m < 3; m++) {
            T.due("placed(" + m + ")", x.placed(m), due[m]);
        }
        T.due("warmest", x.warmest(), 20030);
        x.load(0, 25);
        int[] then = {1, 1, 2};
        T.due("0 has 25 of its own and can take none", x.warmest(), 20030);
        for (int m = 0; m < 3; m++) {
            T.due("placed(" + m + ") then", x.placed(m), then[m]);
        }
        x.load(0, 20);
        int[] last = {0, 1, 2};
        T.due("0 can take 10", x.warmest(), 20030);
        for (int m = 0; m < 3; m++) {
            T.due("placed(" + m + ") at last", x.placed(m), last[m]);
        }
        roundedTies();
        tightPlaces();
    }

    private static void tightPlaces() {
        ColdRows x = new ColdRows();
        x.rack(0, 20000, 1, 3);
        x.rack(0, 20000, 1, 4);
        x.share(1, 1, 1);
        x.machine(10, 2);
        x.machine(20, 2);
        T.due("not both at 0, the smaller one warms 1", x.placed(0), 1);
        T.due("the greater one does not", x.placed(1), 0);
        T.due("warmest", x.warmest(), 20010);
        x.machine(30, 1);
        T.due("0 takes 2 and 1", x.placed(2), 0);
        x.machine(5, 1);
        T.due("0 takes 1 more no more", x.placed(3), 1);
        T.due("warmest", x.warmest(), 20015);
        x.machine(5, 1);
        T.due("7 PLACES for 7", x.placed(4), 1);
        T.due("warmest", x.warmest(), 20020);
        T.due("0 as ahead", x.placed(0), 1);
        x.leave();
        x.machine(5, 2);
        T.due("7 PLACES for 8", x.placed(4), NONE);
        T.due("warmest", x.warmest(), NONE);
    }

    private static void roundedTies() {
        ColdRows x = new ColdRows();
        x.rack(0, 20000, 1, 1);
        x.rack(0, 20000, 1, 1);
        x.share(0, 0, 4);
        x.share(0, 1, 3);
        x.machine(1, 1);
        T.due("4 is more than 3", x.placed(0), 1);
        x.set(20, 5);
        T.due("both come to 1 behind the FAN", x.placed(0), 0);
    }

    private static void warmest() {
        T.part("promise 18");
        ColdRows x = new ColdRows();
        T.due("no RACKS", x.warmest(), NONE);
        x.machine(1, 1);
        T.due("no RACKS but a MACHINE", x.warmest(), NONE);
        x.rack(10, 20000, 1, 0);
        T.due("no PLACING", x.warmest(), NONE);
        x.leave();
        T.due("as they are", x.warmest(), 20000);
        x.rack(10, 20000, 1, 1);
        x.share(0, 1, 7);
        x.share(1, 1, 6);
        T.due("the greatest", x.warmest(), 20070);
        x.machine(1, 1);
        T.due("LOADS come to those of the RACKS", x.warmest(), 20077);
        x.set(11, 3);
        T.due("AIR and FAN as they are: 77 by 3", x.warmest(), 11026);
    }

    private static void placings() {
        T.part("promise 19");
        ColdRows x = new ColdRows();
        T.due("nothing to place", x.placings(), 1);
        x.machine(1, 3);
        T.due("no RACKS", x.placings(), 0);
        x.rack(0, 20000, 1, 3);
        T.due("one", x.placings(), 1);
        x.machine(1, 3);
        T.due("no two in 3 PLACES", x.placings(), 0);
        x.rack(0, 20000, 1, 5);
        T.due("one each", x.placings(), 2);
        x.rack(0, 20000, 1, 6);
        T.due("both in the last, too", x.placings(), 7);
        x.leave();
        x.leave();
        T.due("without MACHINES", x.placings(), 1);
        ColdRows y = new ColdRows();
        for (int r = 0; r < 8; r++) {
            y.rack(0, 20000, 1, 20);
        }
        for (int m = 0; m < 5; m++) {
            y.machine(300, 4);
        }
        T.due("all of them", y.placings(), 32768);
        y.leave();
        y.machine(300, 5);
        T.due("all but those with all in one", y.placings(), 32768 - 8);
    }
}
