/** A test for each sentence of promises 5 to 7 that names an edge. */
public final class SheetsEdgesTest {
    private static final Checks T = new Checks();
    private static final int BAD = -1, NONE = -4, NULL = -11, INDEX = -12, CAST = -13, SIZE = -14;
    private static final int LOW = Integer.MIN_VALUE, HIGH = Integer.MAX_VALUE;

    public static void main(String[] args) {
        sheets();
        lays();
        lowestBits();
        refusedDraws();
        cellsOfDraws();
        draws();
        T.covers(5, 7);
        T.end();
    }

    private static ColdRows with(int racks) {
        ColdRows x = new ColdRows();
        for (int r = 0; r < racks; r++) {
            x.rack(1, 20000, 1, 1);
        }
        return x;
    }

    private static ColdRows with(int racks, int k, int lane, int cells) {
        ColdRows x = with(racks);
        x.sheet(k, lane, cells);
        return x;
    }

    /** What stands in a CELL, as the SHARE that a single RACK draws of it, or why it draws none. */
    private static int cell(ColdRows x, int k, int lane, int c) {
        int answer = x.draw(k, lane, c);
        return answer == 1 ? x.share(0, 0, 0) : answer;
    }

    private static int laid(int lane, long v) {
        ColdRows x = with(1, 0, lane, 1);
        T.due("lay(0, 0, " + v + ")", x.lay(0, 0, v), 1);
        return cell(x, 0, lane, 0);
    }

    // ---- promise 5

    private static void sheets() {
        T.edge(5, "SHEETS 0 to 3", () -> {
            T.range(k -> new ColdRows().sheet(k, 0, 1), 0, 3, 1);
            ColdRows x = with(1);
            for (int k = 0; k <= 3; k++) {
                x.sheet(k, 0, 1);
                x.lay(k, 0, 10 + k);
            }
            for (int k = 0; k <= 3; k++) {
                T.due("each has its own CELLS: " + k, cell(x, k, 0, 0), 10 + k);
            }
        });
        T.edge(5, "BYTES (lane 0), INTS (1), LONGS (2)", () -> T.range(lane -> new ColdRows().sheet(0, lane, 1), 0, 2, 1));
        T.edge(5, "n above 64", () -> {
            for (int lane = 0; lane <= 2; lane++) {
                T.due("64 are not", new ColdRows().sheet(0, lane, 64), 1);
                T.due("65", new ColdRows().sheet(0, lane, 65), BAD);
                T.due("the greatest", new ColdRows().sheet(0, lane, HIGH), BAD);
            }
        });
        T.edge(5, "with 0 to 64 CELLS", () -> {
            ColdRows x = new ColdRows();
            for (int n = 0; n <= 64; n++) {
                T.due("sheet(0, 0, " + n + ")", x.sheet(0, 0, n), 1);
                T.due("CELLS", x.count(6), n);
                T.due("the one behind the last", x.lay(0, n, 1), INDEX);
            }
            T.due("the last of 64", x.lay(0, 63, 1), 1);
        });
        T.edge(5, "0 CELLS are not nothing", () -> {
            ColdRows x = new ColdRows();
            x.sheet(0, 1, 0);
            T.due("count(6)", x.count(6), 0);
            T.due("lay(0, 0, 1)", x.lay(0, 0, 1), INDEX);
            T.due("draw(0, 0, 0)", x.draw(0, 0, 0), CAST);
        });
        T.edge(5, "4 SIZE (below 0): -10 - 4", () -> {
            for (int lane = 0; lane <= 2; lane++) {
                T.due("-1", new ColdRows().sheet(3, lane, -1), SIZE);
                T.due("-65", new ColdRows().sheet(3, lane, -65), SIZE);
                T.due("the least", new ColdRows().sheet(3, lane, LOW), SIZE);
            }
        });
        T.edge(5, "BAD; -10 - 4: the first that fits", () -> {
            T.due("k above", new ColdRows().sheet(4, 0, -1), BAD);
            T.due("k below", new ColdRows().sheet(-1, 0, -1), BAD);
            T.due("lane above", new ColdRows().sheet(0, 3, -1), BAD);
            T.due("lane below", new ColdRows().sheet(0, -1, -1), BAD);
        });
        T.edge(5, "a new row of CELLS 0", () -> {
            for (int lane = 0; lane <= 2; lane++) {
                ColdRows x = with(1, 2, lane, 64);
                T.due("the first at first", cell(x, 2, lane, 0), 0);
                T.due("the last at first", cell(x, 2, lane, 63), 0);
                x.lay(2, 0, 5);
                x.lay(2, 63, 6);
                x.sheet(2, lane, 1);
                T.due("the first anew", cell(x, 2, lane, 0), 0);
                x.sheet(2, lane, 64);
                T.due("the last anew", cell(x, 2, lane, 63), 0);
            }
        });
        T.edge(5, "a new row, of another lane", () -> {
            ColdRows x = with(1, 0, 0, 1);
            x.sheet(0, 2, 1);
            T.due("as of the lane it was", x.draw(0, 0, 0), CAST);
            T.due("as of the new one", x.draw(0, 2, 0), 1);
        });
        T.edge(5, "refused, it changes nothing", () -> {
            int[][] refused = {{0, 1, 65}, {0, 1, -1}, {0, 3, 2}, {0, -1, 2}, {4, 1, 2}, {-1, 1, 2}};
            for (int[] r : refused) {
                ColdRows x = with(1, 0, 2, 3);
                x.lay(0, 2, 7);
                T.isTrue("it is refused", x.sheet(r[0], r[1], r[2]) < 0);
                T.due("CELLS", x.count(6), 3);
                T.due("the lane and a CELL", cell(x, 0, 2, 2), 7);
            }
        });
        T.edge(5, "refused, nothing stays nothing", () -> {
            ColdRows x = new ColdRows();
            x.sheet(0, 0, -1);
            x.sheet(0, 0, 65);
            x.sheet(0, 3, 1);
            T.due("count(6)", x.count(6), NONE);
            T.due("lay(0, 0, 1)", x.lay(0, 0, 1), NULL);
        });
    }

    // ---- promise 6

    private static void lays() {
        T.edge(6, "BAD: k", () -> {
            T.outside(k -> {
                ColdRows x = with(0, 0, 0, 1);
                x.sheet(3, 0, 1);
                return x.lay(k, 0, 1);
            }, 0, 3, BAD);
            T.due("0", with(0, 0, 0, 1).lay(0, 0, 1), 1);
            T.due("3", with(0, 3, 0, 1).lay(3, 0, 1), 1);
        });
        T.edge(6, "NULL", () -> {
            for (int k = 0; k <= 3; k++) {
                ColdRows x = with(0, 3 - k, 0, 64);
                T.due("nothing in " + k, x.lay(k, 0, 1), NULL);
            }
        });
        T.edge(6, "INDEX", () -> {
            for (int lane = 0; lane <= 2; lane++) {
                ColdRows x = with(0, 1, lane, 5);
                T.due("the first", x.lay(1, 0, 1), 1);
                T.due("the last", x.lay(1, 4, 1), 1);
                T.due("behind it", x.lay(1, 5, 1), INDEX);
                T.due("ahead of the first", x.lay(1, -1, 1), INDEX);
                T.due("the greatest", x.lay(1, HIGH, 1), INDEX);
                T.due("the least", x.lay(1, LOW, 1), INDEX);
            }
            T.due("of no CELLS", with(0, 1, 0, 0).lay(1, 0, 1), INDEX);
            T.due("63 of 64", with(0, 1, 0, 64).lay(1, 63, 1), 1);
            T.due("64 of 64", with(0, 1, 0, 64).lay(1, 64, 1), INDEX);
        });
        T.edge(6, "INDEX of a row that became shorter", () -> {
            ColdRows x = with(0, 1, 0, 64);
            x.sheet(1, 0, 2);
            T.due("lay(1, 1, 1)", x.lay(1, 1, 1), 1);
            T.due("lay(1, 2, 1)", x.lay(1, 2, 1), INDEX);
            T.due("lay(1, 63, 1)", x.lay(1, 63, 1), INDEX);
        });
        T.edge(6, "BAD; NULL, INDEX: the first that fits", () -> {
            T.due("BAD ahead of NULL", new ColdRows().lay(4, 0, 1), BAD);
            T.due("BAD ahead of INDEX", new ColdRows().lay(-1, -1, 1), BAD);
            T.due("NULL ahead of INDEX, below", new ColdRows().lay(0, -1, 1), NULL);
            T.due("NULL ahead of INDEX, above", new ColdRows().lay(0, 64, 1), NULL);
        });
        T.edge(6, "CELL i, and no other", () -> {
            ColdRows x = with(1, 0, 1, 3);
            x.lay(0, 1, 9);
            T.due("CELL 0", cell(x, 0, 1, 0), 0);
            T.due("CELL 1", cell(x, 0, 1, 1), 9);
            T.due("CELL 2", cell(x, 0, 1, 2), 0);
        });
        T.edge(6, "refused, it changes nothing", () -> {
            ColdRows x = with(1, 0, 1, 2);
            x.lay(0, 0, 5);
            x.lay(0, 1, 6);
            x.lay(0, 2, 9);
            x.lay(0, -1, 9);
            x.lay(1, 0, 9);
            x.lay(4, 0, 9);
            T.due("CELL 0", cell(x, 0, 1, 0), 5);
            T.due("CELL 1", cell(x, 0, 1, 1), 6);
            T.due("CELLS", x.count(6), 2);
            T.due("SHEET 1", x.draw(1, 1, 0), NULL);
        });
    }

    private static void lowestBits() {
        T.edge(6, "v (its lowest bits): BYTES", () -> {
            long[] values = {0, 127, 256, 256 + 127, -129, -256, 1L << 8, 1L << 32, (1L << 63) + 3, Long.MIN_VALUE};
            int[] due = {0, 127, 0, 127, 127, 0, 0, 0, 3, 0};
            for (int n = 0; n < due.length; n++) {
                T.due(values[n] + " laid", laid(0, values[n]), due[n]);
            }
            long[] below = {128, 200, 255, -1, -56, -128, 256 + 128, Long.MAX_VALUE};
            for (long v : below) {
                T.due(v + " comes to be below 0", laid(0, v), -20);
            }
        });
        T.edge(6, "v (its lowest bits): INTS", () -> {
            long[] values = {0, 200, 1L << 32, (1L << 32) + 200, -(1L << 32) + 5, Long.MIN_VALUE, (1L << 40) + 128};
            int[] due = {0, 200, 0, 200, 5, 0, 128};
            for (int n = 0; n < due.length; n++) {
                T.due(values[n] + " laid", laid(1, values[n]), due[n]);
            }
            long[] wrong = {201, 256, -1, 1L << 31, (1L << 32) - 1, (1L << 32) + 201, Long.MAX_VALUE};
            for (long v : wrong) {
                T.due(v + " comes to be no SHARE", laid(1, v), -20);
            }
        });
        T.edge(6, "v (its lowest bits): LONGS, all of them", () -> {
            T.due("0 laid", laid(2, 0), 0);
            T.due("200 laid", laid(2, 200), 200);
            long[] wrong = {201, -1, 256, 1L << 32, (1L << 32) + 200, -(1L << 32), 1L << 62, Long.MIN_VALUE, Long.MAX_VALUE};
            for (long v : wrong) {
                T.due(v + " stays no SHARE", laid(2, v), -20);
            }
        });
    }

    // ---- promise 7

    private static void refusedDraws() {
        T.edge(7, "BAD: k", () -> {
            T.outside(k -> with(0, 0, 0, 1).draw(k, 0, 0), 0, 3, BAD);
            T.due("0", with(0, 0, 0, 1).draw(0, 0, 0), 0);
            T.due("3", with(0, 3, 0, 1).draw(3, 0, 0), 0);
        });
        T.edge(7, "BAD: lane", () -> T.outside(lane -> with(1, 0, 0, 1).draw(0, lane, 0), 0, 2, BAD));
        T.edge(7, "NULL", () -> {
            for (int k = 0; k <= 3; k++) {
                for (int lane = 0; lane <= 2; lane++) {
                    T.due("nothing in " + k, with(1, 3 - k, 0, 1).draw(k, lane, 0), NULL);
                }
            }
        });
        T.edge(7, "CAST (another lane)", () -> {
            for (int lane = 0; lane <= 2; lane++) {
                for (int as = 0; as <= 2; as++) {
                    T.due("lane " + lane + " as of " + as, with(1, 1, lane, 1).draw(1, as, 0), lane == as ? 1 : CAST);
                }
            }
        });
        T.edge(7, "INDEX", () -> {
            T.due("the last CELL", with(1, 0, 0, 5).draw(0, 0, 4), 1);
            T.due("behind it", with(1, 0, 0, 5).draw(0, 0, 5), INDEX);
            T.due("ahead of the first", with(1, 0, 0, 5).draw(0, 0, -1), INDEX);
            T.due("of no CELLS", with(1, 0, 0, 0).draw(0, 0, 0), INDEX);
            T.due("4 CELLS, the last four", with(2, 0, 0, 9).draw(0, 0, 5), 2);
            T.due("4 CELLS, one behind", with(2, 0, 0, 9).draw(0, 0, 6), INDEX);
            T.due("64 of 64", with(8, 0, 0, 64).draw(0, 0, 0), 8);
            T.due("64 of 64, one behind", with(8, 0, 0, 64).draw(0, 0, 1), INDEX);
            T.due("64 of 63", with(8, 0, 0, 63).draw(0, 0, 0), INDEX);
        });
        T.edge(7, "INDEX far off, where f + n j + i wraps around", () -> {
            T.due("the greatest", with(2, 0, 0, 64).draw(0, 0, HIGH), INDEX);
            T.due("the greatest but 2", with(2, 0, 0, 64).draw(0, 0, HIGH - 2), INDEX);
            T.due("the greatest, 8 RACKS", with(8, 0, 0, 64).draw(0, 0, HIGH - 62), INDEX);
            T.due("the least", with(2, 0, 0, 64).draw(0, 0, LOW), INDEX);
            T.due("-3, the last CELL would be 0", with(2, 0, 0, 64).draw(0, 0, -3), INDEX);
        });
        T.edge(7, "BAD; NULL, CAST, then INDEX: the first met", () -> {
            T.due("BAD (k) ahead of NULL", with(1).draw(4, 0, -1), BAD);
            T.due("BAD (lane) ahead of NULL", with(1).draw(0, 3, -1), BAD);
            T.due("BAD (lane) ahead of CAST", with(1, 0, 0, 1).draw(0, -1, -1), BAD);
            T.due("NULL ahead of INDEX", with(1).draw(0, 0, -1), NULL);
            T.due("CAST ahead of INDEX", with(1, 0, 0, 1).draw(0, 1, -1), CAST);
            ColdRows x = with(1, 0, 1, 1);
            x.lay(0, 0, 201);
            T.due("CAST ahead of a CELL that is no SHARE", x.draw(0, 2, 0), CAST);
        });
        T.edge(7, "0 RACKS: 0 behind NULL, CAST", () -> {
            T.due("BAD", with(0).draw(0, 3, 0), BAD);
            T.due("NULL", with(0).draw(0, 0, 0), NULL);
            T.due("CAST", with(0, 0, 0, 0).draw(0, 1, 0), CAST);
            T.due("no CELLS", with(0, 0, 0, 0).draw(0, 0, 0), 0);
            T.due("f below", with(0, 0, 0, 1).draw(0, 0, LOW), 0);
            T.due("f above", with(0, 0, 0, 1).draw(0, 0, HIGH), 0);
            ColdRows x = with(0, 0, 1, 1);
            x.lay(0, 0, 201);
            T.due("a CELL that is no SHARE is not met", x.draw(0, 1, 0), 0);
        });
    }

    private static void cellsOfDraws() {
        T.edge(7, "it is not 0 to 200", () -> {
            for (int lane = 1; lane <= 2; lane++) {
                T.due("-1", laid(lane, -1), -20);
                T.due("0", laid(lane, 0), 0);
                T.due("200", laid(lane, 200), 200);
                T.due("201", laid(lane, 201), -20);
            }
            T.due("a LONG whose low bits are 0", laid(2, 1L << 32), -20);
            T.due("a LONG whose low bits are 200", laid(2, (1L << 32) + 200), -20);
            T.due("a BYTE of -1", laid(0, -1), -20);
            T.due("a BYTE of 127", laid(0, 127), 127);
        });
        T.edge(7, "-20 less the CELL's number less f", () -> {
            for (int wrong = 0; wrong < 64; wrong++) {
                ColdRows x = with(8, 0, 2, 64);
                x.lay(0, wrong, 201);
                T.due("CELL " + wrong + " from 0 on", x.draw(0, 2, 0), -20 - wrong);
            }
            for (int f = 0; f <= 5; f++) {
                ColdRows x = with(2, 0, 1, 9);
                x.lay(0, 5, -1);
                T.due("CELL 5 from " + f + " on", x.draw(0, 1, f), f < 2 ? 2 : -20 - (5 - f));
            }
        });
        T.edge(7, "a CELL ahead of f or behind the last is not met", () -> {
            ColdRows x = with(2, 0, 1, 6);
            x.lay(0, 0, 201);
            x.lay(0, 5, 201);
            T.due("draw(0, 1, 1)", x.draw(0, 1, 1), 2);
            T.due("draw(0, 1, 0)", x.draw(0, 1, 0), -20);
            T.due("draw(0, 1, 2)", x.draw(0, 1, 2), -23);
        });
        T.edge(7, "CELL by CELL: the first met", () -> {
            ColdRows x = with(2, 0, 1, 4);
            x.lay(0, 3, 201);
            T.due("a CELL that is no SHARE ahead of INDEX", x.draw(0, 1, 1), -22);
            x.lay(0, 1, -1);
            T.due("INDEX ahead of a CELL that is no SHARE", x.draw(0, 1, -1), INDEX);
            T.due("the first of two", x.draw(0, 1, 0), -21);
            x.lay(0, 1, 0);
            x.lay(0, 3, 0);
            T.due("INDEX behind good ones", x.draw(0, 1, 1), INDEX);
        });
        T.edge(7, "refused, it changes nothing", () -> {
            long[] lastCells = {201, -1};
            for (long v : lastCells) {
                ColdRows x = drawn();
                x.sheet(1, 1, 4);
                x.lay(1, 3, v);
                T.due("the last CELL is no SHARE", x.draw(1, 1, 0), -23);
                dueTable(x);
            }
            ColdRows x = drawn();
            x.sheet(1, 1, 3);
            T.due("the last CELL is behind all", x.draw(1, 1, 0), INDEX);
            T.due("CAST", x.draw(1, 2, 0), CAST);
            T.due("NULL", x.draw(2, 2, 0), NULL);
            T.due("BAD", x.draw(1, 3, 0), BAD);
            dueTable(x);
        });
    }

    /** Two RACKS with THE TABLE 1 2 3 4. */
    private static ColdRows drawn() {
        ColdRows x = with(2, 0, 0, 4);
        for (int c = 0; c < 4; c++) {
            x.lay(0, c, 1 + c);
        }
        x.draw(0, 0, 0);
        return x;
    }

    private static void dueTable(ColdRows x) {
        T.due("at 0", x.into(0), 20003);
        T.due("at 1", x.into(1), 20007);
        for (int c = 0; c < 4; c++) {
            T.due("SHARE", x.share(c / 2, c % 2, 0), 1 + c);
        }
    }

    private static void draws() {
        T.edge(7, "for all RACKS there are (n): how many", () -> {
            for (int n = 0; n <= 8; n++) {
                T.due(n + " RACKS", with(n, 0, 0, 64).draw(0, 0, 0), n);
            }
        });
        T.edge(7, "of j, i CELL f + n j + i", () -> {
            for (int n = 1; n <= 5; n++) {
                for (int f = 0; f <= 3; f++) {
                    ColdRows x = with(n, 0, 0, 32);
                    for (int c = 0; c < 32; c++) {
                        x.lay(0, c, 1 + c);
                    }
                    x.draw(0, 0, f);
                    for (int c = 0; c < n * n; c++) {
                        T.due("of " + c / n + ", " + c % n, x.share(c / n, c % n, 0), 1 + f + c);
                    }
                }
            }
        });
        T.edge(7, "64 CELLS of 8 RACKS", () -> {
            ColdRows x = with(8, 0, 2, 64);
            for (int c = 0; c < 64; c++) {
                x.lay(0, c, 200 - c);
            }
            x.draw(0, 2, 0);
            for (int c = 0; c < 64; c++) {
                T.due("of " + c / 8 + ", " + c % 8, x.share(c / 8, c % 8, 0), 200 - c);
            }
        });
        T.edge(7, "a RACK that comes later has SHARE 0", () -> {
            ColdRows x = drawn();
            x.rack(1, 20000, 1, 1);
            T.due("at it", x.into(2), 20000);
            T.due("of it at 0", x.share(0, 2, 0), 0);
            dueTable(x);
        });
        T.edge(7, "read of a SHEET, which stays", () -> {
            ColdRows x = drawn();
            x.share(0, 0, 99);
            T.due("drawn again", x.draw(0, 0, 0), 2);
            dueTable(x);
            x.lay(0, 0, 50);
            T.due("the TABLE is no SHEET", x.share(0, 0, 0), 0);
        });
    }
}
