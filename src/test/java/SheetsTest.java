/** Promises 5 to 7: sheets and the table that is drawn of them. */
public final class SheetsTest {
    private static final Checks T = new Checks();
    private static final int BAD = -1, NONE = -4, NULL = -11, INDEX = -12, CAST = -13, SIZE = -14;
    private static final int LOW = Integer.MIN_VALUE, HIGH = Integer.MAX_VALUE;

    public static void main(String[] args) {
        sheets();
        lays();
        lanes();
        faultsOfDraws();
        cellsOfDraws();
        tables();
        T.end();
    }

    private static ColdRows withRacks(int n) {
        ColdRows x = new ColdRows();
        for (int r = 0; r < n; r++) {
            x.rack(1, 20000, 1, 1);
        }
        return x;
    }

    private static void sheets() {
        T.part("promise 5");
        ColdRows x = new ColdRows();
        T.due("below 0 on nothing", x.sheet(0, 0, -1), SIZE);
        T.due("still nothing", x.count(6), NONE);
        T.due("none", x.sheet(0, 0, 0), 1);
        T.due("0 CELLS", x.count(6), 0);
        T.due("64", x.sheet(0, 2, 64), 1);
        T.due("64 CELLS", x.count(6), 64);
        T.due("65", x.sheet(0, 2, 65), BAD);
        T.due("the most", x.sheet(0, 2, HIGH), BAD);
        T.due("below 0", x.sheet(0, 2, LOW), SIZE);
        T.due("lane 3", x.sheet(0, 3, 1), BAD);
        T.due("lane -1", x.sheet(0, -1, 1), BAD);
        T.due("sheet 4", x.sheet(4, 0, 1), BAD);
        T.due("sheet -1", x.sheet(-1, 0, 1), BAD);
        T.due("BAD ahead of SIZE: lane", x.sheet(0, 3, -1), BAD);
        T.due("BAD ahead of SIZE: sheet", x.sheet(4, 0, -1), BAD);
        T.due("refused changes nothing", x.count(6), 64);
        ColdRows y = withRacks(1);
        y.sheet(3, 0, 2);
        y.lay(3, 0, 9);
        y.sheet(3, 0, 2);
        y.share(0, 0, 5);
        T.due("drawn anew", y.draw(3, 0, 0), 1);
        T.due("a new row is 0", y.share(0, 0, 0), 0);
        T.due("another SHEET is nothing", y.draw(2, 0, 0), NULL);
    }

    private static void lays() {
        T.part("promise 6");
        ColdRows x = new ColdRows();
        T.due("nothing", x.lay(0, 0, 1), NULL);
        T.due("NULL ahead of INDEX", x.lay(0, -1, 1), NULL);
        T.due("sheet 4", x.lay(4, 0, 1), BAD);
        T.due("sheet -1", x.lay(-1, 0, 1), BAD);
        x.sheet(0, 1, 0);
        T.due("no CELLS", x.lay(0, 0, 1), INDEX);
        x.sheet(0, 1, 3);
        T.due("the last", x.lay(0, 2, 1), 1);
        T.due("behind it", x.lay(0, 3, 1), INDEX);
        T.due("ahead of all", x.lay(0, -1, 1), INDEX);
        T.due("far", x.lay(0, HIGH, 1), INDEX);
        T.due("far", x.lay(0, LOW, 1), INDEX);
        x.sheet(0, 1, 64);
        x.sheet(0, 1, 3);
        T.due("the row is as long as the last one told", x.lay(0, 3, 1), INDEX);
    }

    /** What a single RACK's SHARE becomes of a CELL, or why not. */
    private static int drawn(int lane, long v) {
        ColdRows x = withRacks(1);
        x.sheet(1, lane, 1);
        x.lay(1, 0, v);
        int answer = x.draw(1, lane, 0);
        return answer == 1 ? x.share(0, 0, 0) : answer;
    }

    private static void lanes() {
        T.part("promise 6, lowest bits");
        T.due("byte 127", drawn(0, 127), 127);
        T.due("byte 128", drawn(0, 128), -20);
        T.due("byte 200", drawn(0, 200), -20);
        T.due("byte 256", drawn(0, 256), 0);
        T.due("byte of a long", drawn(0, (1L << 40) + 5), 5);
        T.due("int 200", drawn(1, 200), 200);
        T.due("int 201", drawn(1, 201), -20);
        T.due("int -1", drawn(1, -1), -20);
        T.due("int 256", drawn(1, 256), -20);
        T.due("int of a long", drawn(1, (1L << 32) + 6), 6);
        T.due("long 200", drawn(2, 200), 200);
        T.due("long 2 to 32", drawn(2, 1L << 32), -20);
        T.due("long below", drawn(2, Long.MIN_VALUE), -20);
        T.due("long above", drawn(2, Long.MAX_VALUE), -20);
        T.due("int of the greatest long", drawn(1, Long.MAX_VALUE), -20);
        T.due("int of the least long", drawn(1, Long.MIN_VALUE), 0);
    }

    private static void faultsOfDraws() {
        T.part("promise 7, faults");
        ColdRows x = new ColdRows();
        T.due("0 RACKS: NULL first", x.draw(0, 0, 0), NULL);
        x.sheet(0, 0, 0);
        T.due("0 RACKS: CAST first", x.draw(0, 1, 0), CAST);
        T.due("0 RACKS", x.draw(0, 0, 0), 0);
        T.due("0 RACKS, no CELL is met", x.draw(0, 0, -5), 0);
        T.due("lane 3", x.draw(0, 3, 0), BAD);
        T.due("lane -1", x.draw(0, -1, 0), BAD);
        T.due("lane 3 of nothing", x.draw(1, 3, 0), BAD);
        T.due("sheet 4", x.draw(4, 0, 0), BAD);
        T.due("sheet -1", x.draw(-1, 0, 0), BAD);
        x.rack(1, 20000, 1, 1);
        T.due("no CELLS", x.draw(0, 0, 0), INDEX);
        T.due("CAST ahead of INDEX", x.draw(0, 2, 9), CAST);
        x.sheet(0, 0, 64);
        T.due("the last", x.draw(0, 0, 63), 1);
        T.due("behind it", x.draw(0, 0, 64), INDEX);
        T.due("far", x.draw(0, 0, HIGH), INDEX);
        T.due("far", x.draw(0, 0, LOW), INDEX);
        T.due("-1", x.draw(0, 0, -1), INDEX);
        for (int lane = 0; lane < 3; lane++) {
            x.sheet(2, lane, 1);
            for (int as = 0; as < 3; as++) {
                T.due("lane " + lane + " as " + as, x.draw(2, as, 0), lane == as ? 1 : CAST);
            }
        }
    }

    private static void cellsOfDraws() {
        T.part("promise 7, cells");
        ColdRows x = withRacks(2);
        x.sheet(0, 1, 6);
        x.share(0, 0, 11);
        x.lay(0, 5, 201);
        T.due("the fourth CELL is wrong", x.draw(0, 1, 2), -23);
        T.due("a wrong CELL ahead of INDEX", x.draw(0, 1, 3), -22);
        T.due("INDEX ahead of a wrong CELL", x.draw(0, 1, -1), INDEX);
        x.lay(0, 5, 200);
        T.due("INDEX at the fourth CELL", x.draw(0, 1, 3), INDEX);
        x.lay(0, 4, -1);
        x.lay(0, 5, -1);
        T.due("the first one met", x.draw(0, 1, 2), -22);
        T.due("refused changes nothing", x.share(0, 0, 11), 11);
        ColdRows y = withRacks(8);
        y.sheet(0, 2, 64);
        y.lay(0, 63, 201);
        T.due("the last of 64", y.draw(0, 2, 0), -83);
        T.due("a row of 64 from 1 on: the wrong CELL is first", y.draw(0, 2, 1), -82);
    }

    private static void tables() {
        T.part("promise 7, the table");
        ColdRows x = withRacks(3);
        x.sheet(3, 0, 12);
        for (int c = 0; c < 12; c++) {
            x.lay(3, c, 10 + c);
        }
        T.due("how many", x.draw(3, 0, 2), 3);
        for (int j = 0; j < 3; j++) {
            for (int i = 0; i < 3; i++) {
                T.due("of j, i", x.share(j, i, 1), 12 + 3 * j + i);
            }
        }
        x.lay(3, 2, 99);
        T.due("the SHEET is read when it is drawn", x.share(0, 0, 1), 1);
        x.rack(1, 20000, 1, 1);
        T.due("4 RACKS want 16", x.draw(3, 0, 0), INDEX);
        T.due("a new RACK has SHARE 0", x.share(3, 3, 0), 0);
        T.due("the others keep theirs", x.share(2, 2, 0), 1);
    }
}
