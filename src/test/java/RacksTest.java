/** Promises 1 to 4 and 8 to 14: racks, the table, the air, prices, minutes. */
public final class RacksTest {
    private static final Checks T = new Checks();
    private static final int BAD = -1, FULL = -3, NONE = -4;
    private static final int LOW = Integer.MIN_VALUE, HIGH = Integer.MAX_VALUE;

    public static void main(String[] args) {
        newObject();
        racks();
        loads();
        shares();
        setting();
        pricing();
        into();
        hot();
        power();
        best();
        minutes();
        T.end();
    }

    private static void newObject() {
        T.part("promise 1");
        ColdRows x = new ColdRows();
        int[] counts = {0, 0, 0, 0, 0, 0, NONE, 20, 1};
        for (int what = 0; what < counts.length; what++) {
            T.due("count(" + what + ")", x.count(what), counts[what]);
        }
        for (int k = 0; k < 4; k++) {
            T.due("lay on nothing", x.lay(k, 0, 1), -11);
        }
        T.due("seen", x.seen(0), 0);
        T.due("weight", x.price(0, 10), 10);
        for (int air = 10; air <= 30; air++) {
            T.due("price", x.price(air, 100), 100);
        }
        T.due("leave", x.leave(), NONE);
        T.due("weak", x.weak(), NONE);
        T.due("quarrel", x.quarrel(), NONE);
        ColdRows y = new ColdRows();
        x.rack(1, 20000, 1, 1);
        T.due("objects share nothing", y.count(0), 0);
    }

    private static void racks() {
        T.part("promise 2");
        ColdRows x = new ColdRows();
        T.due("least of all", x.rack(0, 10000, 1, 0), 0);
        T.due("most of all", x.rack(1000, 60000, 1000, 20), 1);
        int[][] bad = {{-1, 20000, 1, 1}, {1001, 20000, 1, 1}, {1, 9999, 1, 1}, {1, 60001, 1, 1},
            {1, 20000, 0, 1}, {1, 20000, 1001, 1}, {1, 20000, 1, -1}, {1, 20000, 1, 21},
            {LOW, 20000, 1, 1}, {1, HIGH, 1, 1}, {1, 20000, LOW, 1}, {1, 20000, 1, HIGH}};
        for (int[] b : bad) {
            T.due("rack as not told", x.rack(b[0], b[1], b[2], b[3]), BAD);
        }
        T.due("refused changes nothing", x.count(0), 2);
        for (int r = 2; r < 8; r++) {
            T.due("numbered as they come", x.rack(r, 20000, 1, 1), r);
        }
        T.due("the ninth", x.rack(1, 20000, 1, 1), FULL);
        T.due("BAD ahead of FULL", x.rack(1001, 20000, 1, 1), BAD);
        T.due("count", x.count(0), 8);
    }

    private static void loads() {
        T.part("promise 3");
        ColdRows x = new ColdRows();
        T.due("no such", x.load(0, 1), BAD);
        x.rack(7, 20000, 1, 1);
        T.due("first", x.load(0, 1000), 7);
        T.due("edge", x.load(0, 0), 1000);
        T.due("above", x.load(0, 1001), BAD);
        T.due("below", x.load(0, -1), BAD);
        T.due("no such", x.load(1, 1), BAD);
        T.due("below 0", x.load(-1, 1), BAD);
        T.due("refused changes nothing", x.load(0, 5), 0);
        x.share(0, 0, 10);
        T.due("into follows", x.into(0), 20050);
    }

    private static void shares() {
        T.part("promise 4");
        ColdRows x = new ColdRows();
        T.due("no such", x.share(0, 0, 0), BAD);
        x.rack(10, 20000, 1, 1);
        x.rack(100, 20000, 1, 1);
        T.due("0 at first", x.share(0, 1, 200), 0);
        T.due("the other way is another", x.share(1, 0, 3), 0);
        T.due("at 0 of 1", x.into(0), 40000);
        T.due("at 1 of 0", x.into(1), 20030);
        T.due("above", x.share(0, 1, 201), BAD);
        T.due("below", x.share(0, 1, -1), BAD);
        T.due("no such j", x.share(2, 0, 1), BAD);
        T.due("no such i", x.share(0, 2, 1), BAD);
        T.due("j below", x.share(-1, 0, 1), BAD);
        T.due("i below", x.share(0, LOW, 1), BAD);
        T.due("what it was", x.share(0, 1, 0), 200);
    }

    private static void setting() {
        T.part("promise 8");
        ColdRows x = new ColdRows();
        int[][] good = {{10, 1}, {30, 5}, {10, 5}, {30, 1}, {17, 3}};
        for (int[] g : good) {
            T.due("set", x.set(g[0], g[1]), 1);
            T.due("air", x.count(7), g[0]);
            T.due("fan", x.count(8), g[1]);
        }
        int[][] bad = {{9, 1}, {31, 1}, {20, 0}, {20, 6}, {LOW, 1}, {20, HIGH}, {0, 1}};
        for (int[] b : bad) {
            T.due("set as not told", x.set(b[0], b[1]), BAD);
        }
        T.due("air as it was", x.count(7), 17);
        T.due("fan as it was", x.count(8), 3);
    }

    private static void pricing() {
        T.part("promise 9");
        ColdRows x = new ColdRows();
        T.due("weight at first", x.price(0, 100), 10);
        T.due("weight then", x.price(0, 0), 100);
        T.due("weight above", x.price(0, 101), BAD);
        T.due("weight below", x.price(0, -1), BAD);
        T.due("weight as it was", x.price(0, 10), 0);
        T.due("first air", x.price(10, 1000), 100);
        T.due("first air again", x.price(10, 0), 1000);
        T.due("last air", x.price(30, 7), 100);
        T.due("last air again", x.price(30, 8), 7);
        T.due("others stay", x.price(29, 9), 100);
        T.due("price above", x.price(30, 1001), BAD);
        T.due("price below", x.price(30, -1), BAD);
        int[] bad = {9, 31, -1, 1, LOW, HIGH};
        for (int air : bad) {
            T.due("no such air", x.price(air, 1), BAD);
        }
        T.due("as it was", x.price(30, 8), 8);
    }

    private static void into() {
        T.part("promise 10");
        ColdRows x = new ColdRows();
        T.due("no racks", x.into(0), BAD);
        x.rack(7, 20000, 1, 1);
        x.rack(3, 20000, 1, 1);
        T.due("air alone", x.into(0), 20000);
        x.share(0, 0, 1);
        x.share(0, 1, 1);
        int[] due = {20010, 20005, 20004, 20003, 20002};
        for (int fan = 1; fan <= 5; fan++) {
            x.set(20, fan);
            T.due("up to a whole number", x.into(0), due[fan - 1]);
        }
        x.share(0, 1, 2);
        T.due("13 by 5", x.into(0), 20003);
        T.due("nothing given stays whole", x.into(1), 20000);
        T.due("no such", x.into(2), BAD);
        T.due("below", x.into(-1), BAD);
        x.set(10, 1);
        T.due("air counts in thousands", x.into(1), 10000);
        most();
    }

    private static void most() {
        ColdRows x = new ColdRows();
        for (int r = 0; r < 8; r++) {
            x.rack(1000, 60000, 1, 1);
        }
        for (int i = 0; i < 8; i++) {
            x.share(7, i, 200);
        }
        x.set(30, 1);
        T.due("the most there can be", x.into(7), 30000 + 1600000);
    }

    private static void hot() {
        T.part("promise 11");
        ColdRows x = new ColdRows();
        T.due("none", x.hot(0), 0);
        T.due("none", x.hot(1), NONE);
        T.due("none", x.hot(2), NONE);
        x.rack(10, 21000, 1, 1);
        x.rack(10, 20000, 1, 1);
        x.rack(10, 20000, 1, 1);
        T.due("at the LIMIT it is not HOT", x.hot(0), 0);
        T.due("none is first", x.hot(1), NONE);
        T.due("the least of several", x.hot(2), 1);
        x.share(2, 0, 1);
        T.due("one above", x.hot(0), 1);
        T.due("first", x.hot(1), 2);
        T.due("nearest", x.hot(2), 2);
        x.share(1, 0, 1);
        T.due("two", x.hot(0), 2);
        T.due("first of two", x.hot(1), 1);
        T.due("the least of two", x.hot(2), 1);
        x.share(0, 0, 101);
        T.due("RACK 0, too", x.hot(0), 3);
        T.due("it is the first", x.hot(1), 0);
        T.due("all the same: the least", x.hot(2), 0);
        int[] bad = {-1, 3, LOW, HIGH};
        for (int what : bad) {
            T.due("no such what", x.hot(what), BAD);
        }
    }

    private static void power() {
        T.part("promise 12");
        ColdRows x = new ColdRows();
        T.due("no racks", x.power(10, 1), 10 + 1);
        T.due("fan three times", x.power(30, 5), 1250 + 125);
        x.rack(1, 20000, 1, 1);
        T.due("up to a whole number", x.power(20, 1), 10 + 2);
        x.price(20, 0);
        T.due("price 0", x.power(20, 1), 10);
        T.due("another air has its own", x.power(21, 1), 10 + 2);
        x.price(0, 0);
        x.price(20, 1000);
        T.due("weight 0", x.power(20, 5), 1);
        x.rack(1000, 20000, 1, 1);
        T.due("all LOADS", x.power(20, 2), 1001);
        x.machine(300, 1);
        T.due("those of the RACKS alone", x.power(20, 2), 1001);
        int[][] bad = {{9, 1}, {31, 1}, {20, 0}, {20, 6}, {0, 1}, {LOW, HIGH}};
        for (int[] b : bad) {
            T.due("as not told", x.power(b[0], b[1]), BAD);
        }
    }

    private static void best() {
        T.part("promise 13");
        ColdRows x = new ColdRows();
        T.due("no racks", x.best(), 101);
        x.price(13, 99);
        T.due("1 of both, the least AIR", x.best(), 101);
        x.price(13, 0);
        T.due("the cheaper AIR", x.best(), 131);
        x.rack(100, 12000, 1, 1);
        x.share(0, 0, 40);
        T.due("12000 at the most: fan 2 at air 10", x.best(), 102);
        T.due("the air stays as it is", x.count(7), 20);
        x.price(0, 0);
        T.due("fans for nothing, the least FAN of them", x.best(), 102);
        x.price(11, 50);
        T.due("air 11 wants fan 4", x.best(), 114);
        x.price(10, 50);
        T.due("equal: the least FAN ahead of the AIR", x.best(), 102);
        x.price(0, 10);
        x.share(0, 0, 101);
        T.due("fan 5 at air 10 is above", x.best(), NONE);
        x.share(0, 0, 100);
        T.due("fan 5 at air 10 is within", x.best(), 105);
        everyAirWithin();
    }

    private static void everyAirWithin() {
        ColdRows x = new ColdRows();
        x.rack(1000, 60000, 1, 1);
        x.price(30, 1);
        T.due("the last AIR is tried", x.best(), 301);
        x.price(0, 0);
        T.due("the least FAN of equal ones", x.best(), 301);
        x.price(29, 1);
        T.due("the least AIR of equal ones", x.best(), 291);
    }

    private static void minutes() {
        T.part("promise 14");
        ColdRows x = new ColdRows();
        T.due("no such", x.minutes(0), BAD);
        x.rack(10, 20000, 10, 1);
        x.rack(10, 21000, 10, 1);
        x.rack(10, 20999, 10, 1);
        x.rack(0, 20000, 1, 1);
        x.rack(0, 19999, 1, 1);
        x.rack(1, 20003, 1000, 1);
        x.rack(1000, 60000, 1, 1);
        x.rack(5, 20010, 1000, 1);
        int[] due = {1, 2, 1, NONE, 0, 4, 1, 3};
        for (int r = 0; r < due.length; r++) {
            T.due("minutes(" + r + ")", x.minutes(r), due[r]);
        }
        x.load(7, 1);
        T.due("11 minutes by 1", x.minutes(7), 11);
        x.set(21, 1);
        T.due("HOT already", x.minutes(0), 0);
        T.due("no such", x.minutes(8), BAD);
        T.due("below", x.minutes(-1), BAD);
        ColdRows y = new ColdRows();
        y.rack(2, 20005, 999, 1);
        T.due("2000 by 999 is 2", y.minutes(0), 3);
    }
}
