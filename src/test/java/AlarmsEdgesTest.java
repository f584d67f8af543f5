/** A test for each sentence of promises 26 to 29 that names an edge. */
public final class AlarmsEdgesTest {
    private static final Checks T = new Checks();
    private static final int BAD = -1, FULL = -3, NONE = -4;

    public static void main(String[] args) {
        causes();
        seen();
        roots();
        strange();
        T.covers(26, 29);
        T.end();
    }

    private static ColdRows with(int seen, int... causes) {
        ColdRows x = new ColdRows();
        for (int alarms : causes) {
            x.cause(alarms);
        }
        x.seen(seen);
        return x;
    }

    // ---- promise 26

    private static void causes() {
        T.edge(26, "CAUSES (10) are numbered as they come", () -> {
            ColdRows x = new ColdRows();
            for (int c = 0; c < 10; c++) {
                T.due("CAUSE " + c, x.cause(1), c);
                T.due("count(3)", x.count(3), c + 1);
            }
        });
        T.edge(26, "bits not 1 to 65535", () -> {
            T.range(v -> new ColdRows().cause(v), 1, 65535, 0);
            T.due("a bit above 15 with others", new ColdRows().cause(65536 + 1), BAD);
        });
        T.edge(26, "ALARMS: bits 0 to 15", () -> {
            for (int bit = 0; bit <= 15; bit++) {
                ColdRows x = with(1 << bit, 1 << bit);
                T.due("bit " + bit, x.roots(), 1);
                T.due("bit " + bit, x.strange(), 0);
            }
            T.due("all of them", with(65535, 65535).roots(), 1);
            T.due("all but one are SEEN", with(65534, 65535).roots(), NONE);
        });
        T.edge(26, "at least one", () -> T.due("cause(0)", new ColdRows().cause(0), BAD));
        T.edge(26, "FULL", () -> {
            ColdRows x = with(3, 1, 1, 1, 1, 1, 1, 1, 1, 1, 1);
            T.due("an eleventh", x.cause(2), FULL);
            T.due("still", x.cause(3), FULL);
            T.due("there are 10", x.count(3), 10);
            T.due("it makes nothing", x.strange(), 2);
            T.due("nor is it one of the ROOTS", x.roots(), NONE);
        });
        T.edge(26, "BAD; FULL: the first that fits", () -> {
            ColdRows x = with(0, 1, 1, 1, 1, 1, 1, 1, 1, 1, 1);
            T.due("none", x.cause(0), BAD);
            T.due("above", x.cause(65536), BAD);
            T.due("below", x.cause(-1), BAD);
        });
        T.edge(26, "BAD: refused, it changes nothing", () -> {
            ColdRows x = with(0, 1);
            x.cause(0);
            x.cause(65536);
            x.cause(-1);
            T.due("count(3)", x.count(3), 1);
            T.due("the next number", x.cause(1), 1);
        });
    }

    // ---- promise 27

    private static void seen() {
        T.edge(27, "(0 to 65535)", () -> {
            T.range(v -> new ColdRows().seen(v), 0, 65535, 0);
            ColdRows x = new ColdRows();
            x.seen(65535);
            T.due("the most was", x.seen(0), 65535);
            T.due("the least was", x.seen(1), 0);
        });
        T.edge(27, "what was", () -> {
            ColdRows x = with(9);
            T.due("others, not those as well", x.seen(6), 9);
            T.due("those alone", x.seen(6), 6);
            T.due("the same again", x.seen(0), 6);
        });
        T.edge(27, "BAD: refused, it changes nothing", () -> {
            ColdRows x = with(5);
            x.seen(65536);
            x.seen(-1);
            x.seen(65536 + 2);
            T.due("seen(0)", x.seen(0), 5);
        });
    }

    // ---- promise 28

    private static void roots() {
        T.edge(28, "None SEEN: 0", () -> {
            T.due("no CAUSES", new ColdRows().roots(), 0);
            T.due("CAUSES", with(0, 1, 2, 3).roots(), 0);
            ColdRows x = with(3, 3);
            x.seen(0);
            T.due("no more", x.roots(), 0);
        });
        T.edge(28, "NONE", () -> {
            T.due("no CAUSES", with(1).roots(), NONE);
            T.due("another ALARM", with(1, 2).roots(), NONE);
            T.due("one ALARM is left", with(7, 1, 2).roots(), NONE);
            T.due("the last ALARM is left", with(65535, 32767).roots(), NONE);
        });
        T.edge(28, "CAUSES that make SEEN ALARMS alone", () -> {
            T.due("it makes one more", with(1, 3).roots(), NONE);
            T.due("the second does not", with(1, 3, 1).roots(), 2);
            T.due("two, though the first makes all and one more", with(3, 7, 1, 2).roots(), 6);
        });
        T.edge(28, "together all that are SEEN", () -> {
            T.due("one", with(3, 3).roots(), 1);
            T.due("two", with(3, 1, 2).roots(), 3);
            T.due("two that share one", with(7, 3, 6).roots(), 3);
        });
        T.edge(28, "those of the fewest CAUSES", () -> {
            T.due("one, not two that came ahead", with(3, 1, 2, 3).roots(), 4);
            T.due("two, not three that came ahead", with(7, 1, 2, 4, 6).roots(), 9);
            T.due("the tenth alone", with(511, 1, 2, 4, 8, 16, 32, 64, 128, 256, 511).roots(), 512);
        });
        T.edge(28, "of several the least", () -> {
            T.due("two the same", with(1, 1, 1).roots(), 1);
            T.due("2 and 3 against 1 and 4: 12 and 18", with(15, 32, 3, 5, 10, 12).roots(), 12);
            T.due("0 and 3 against 1 and 2: 9 and 6", with(15, 12, 10, 5, 3).roots(), 6);
        });
        T.edge(28, "the sum of 2 to the number of each", () -> {
            T.due("all ten", with(1023, 1, 2, 4, 8, 16, 32, 64, 128, 256, 512).roots(), 1023);
            T.due("the last", with(512, 1, 2, 4, 8, 16, 32, 64, 128, 256, 512).roots(), 512);
            T.due("the first and the last", with(513, 1, 2, 4, 8, 16, 32, 64, 128, 256, 512).roots(), 513);
        });
        T.edge(28, "it changes nothing", () -> {
            ColdRows x = with(3, 1, 2);
            x.roots();
            T.due("again", x.roots(), 3);
            T.due("seen(0)", x.seen(0), 3);
        });
    }

    // ---- promise 29

    private static void strange() {
        T.edge(29, "none SEEN", () -> {
            T.due("no CAUSES", new ColdRows().strange(), 0);
            T.due("CAUSES", with(0, 1, 65535).strange(), 0);
        });
        T.edge(29, "no CAUSES", () -> {
            T.due("all ALARMS", with(65535).strange(), 65535);
            T.due("the last ALARM", with(32768).strange(), 32768);
        });
        T.edge(29, "no CAUSE that makes SEEN ones alone makes", () -> {
            T.due("it makes all", with(3, 3).strange(), 0);
            T.due("it makes one", with(3, 1).strange(), 2);
            T.due("it makes one more", with(3, 7).strange(), 3);
            T.due("one makes one more, another does not", with(3, 7, 2).strange(), 1);
            T.due("the tenth does not", with(3, 7, 7, 7, 7, 7, 7, 7, 7, 7, 1).strange(), 2);
        });
        T.edge(29, "The ALARMS SEEN", () -> T.due("of those alone", with(40, 8, 4, 2).strange(), 32));
    }
}
