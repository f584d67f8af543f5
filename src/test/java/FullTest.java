/** Objects with all that there can be, and empty ones, asked by every call with every kind of number. */
public final class FullTest {
    private static final Checks T = new Checks();
    private static final int NONE = -4;
    private static final int[] NUMBERS = {Integer.MIN_VALUE, -65, -10, -5, NONE, -3, -2, -1, 0, 1, 2, 3, 4, 5, 7, 8, 9,
        10, 11, 12, 15, 16, 20, 30, 31, 32, 63, 64, 65, 200, 1000, 10000, 65535, 65536, 100000, Integer.MAX_VALUE};

    public static void main(String[] args) {
        fullAnswers();
        for (int a : NUMBERS) {
            for (int b : NUMBERS) {
                T.isTrue("calls answer for " + a + ", " + b, answersAll(full(), a, b));
                T.isTrue("a new object's calls answer for " + a + ", " + b, answersAll(new ColdRows(), a, b));
            }
        }
        T.end();
    }

    private static ColdRows full() {
        ColdRows x = new ColdRows();
        for (int f = 0; f < 16; f++) {
            x.feed(f == 0 ? NONE : f - 1, 100);
        }
        for (int r = 0; r < 8; r++) {
            x.rack(10, 20000, 10, 5);
            x.plug(r, 0, 15);
            x.plug(r, 1, 14);
            x.share(r, r, 200);
        }
        for (int m = 0; m < 5; m++) {
            x.machine(10, 5);
        }
        for (int c = 0; c < 10; c++) {
            x.cause(1 << c);
        }
        for (int m = 0; m < 12; m++) {
            x.meter(m == 0 ? NONE : m - 1);
        }
        x.reads(11, 5);
        x.seen(1023);
        for (int k = 0; k < 4; k++) {
            x.sheet(k, k % 3, 64);
        }
        return x;
    }

    private static void fullAnswers() {
        T.part("all there can be");
        ColdRows x = full();
        T.due("hot(0)", x.hot(0), 8);
        T.due("hot(2)", x.hot(2), 0);
        T.due("power(20, 1)", x.power(20, 1), 10 + 9);
        T.due("best()", x.best(), 101);
        T.due("placings()", x.placings(), 8 * 7 * 6 * 5 * 4);
        T.due("warmest()", x.warmest(), 24000);
        for (int m = 0; m < 5; m++) {
            T.due("placed", x.placed(m), m);
        }
        T.due("through(0)", x.through(0), 80);
        T.due("through(15)", x.through(15), 40);
        T.due("state(0)", x.state(0), 0);
        T.due("weak()", x.weak(), 0);
        T.due("roots()", x.roots(), 1023);
        T.due("strange()", x.strange(), 0);
        T.due("known(0)", x.known(0), 5);
        T.due("quarrel()", x.quarrel(), NONE);
        T.due("count(5)", x.count(5), 12);
        T.due("draw(3, 0, 0)", x.draw(3, 0, 0), 8);
        T.due("a table of 0", x.warmest(), 20000);
    }

    /** What the machine would throw ends the test; what is answered is the other tests' matter. */
    private static boolean answersAll(ColdRows x, int a, int b) {
        long sum = 0;
        sum += x.rack(a, b, a, b) + x.rack(b, 20000, a, 5) + x.load(a, b) + x.share(a, b, a) + x.share(b, a, 1);
        sum += x.sheet(a, 0, b) + x.sheet(0, a, b) + x.lay(a, b, b) + x.lay(0, a, b);
        sum += x.draw(a, 0, b) + x.draw(0, a, b) + x.draw(3, 0, b);
        sum += x.set(a, b) + x.price(a, b) + x.into(a) + x.hot(a) + x.power(a, b) + x.best() + x.minutes(a);
        sum += x.machine(a, b) + x.placed(a);
        sum += x.feed(a, b) + x.plug(a, b, a) + x.plug(a, 0, b) + x.plug(a, 1, b) + x.fail(a, true) + x.through(a);
        sum += x.state(a) + x.weak() + x.fail(a, false);
        sum += x.cause(a) + x.seen(a) + x.roots() + x.strange();
        sum += x.meter(a) + x.reads(a, b) + x.known(a) + x.quarrel() + x.loses(a) + x.count(a);
        return sum != Long.MIN_VALUE && x.leave() >= NONE;
    }
}
