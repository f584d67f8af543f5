import java.util.Set;
import java.util.TreeSet;
import java.util.function.IntUnaryOperator;

/** What the tests share: a call's answer is set against the one that is due. */
final class Checks {
    private static final int BAD = -1;

    private int wrong = 0;
    private int made = 0;
    private int edges = 0;
    private String part = "";
    private final Set<Integer> promises = new TreeSet<>();

    void part(String name) {
        part = name;
    }

    /** The test of one sentence of the document that names an edge: it stands alone, and must ask for an answer. */
    void edge(int promise, String words, Runnable test) {
        part("promise " + promise + ", '" + words + "'");
        edges++;
        promises.add(promise);
        int madeBefore = made;
        try {
            test.run();
        } catch (RuntimeException e) {
            isTrue("no call throws: " + e, false);
        }
        isTrue("an answer is asked for", made > madeBefore);
    }

    void due(String call, long got, long want) {
        made++;
        if (got != want) {
            wrong++;
            System.out.println(part + ": " + call + " answered " + got + ", due is " + want);
        }
    }

    void isTrue(String what, boolean holds) {
        made++;
        if (!holds) {
            wrong++;
            System.out.println(part + ": it does not hold that " + what);
        }
    }

    /** A number that is told as 'least to most', given to a call that answers 'good' then. */
    void range(IntUnaryOperator call, int least, int most, int good) {
        due("with the least, " + least, call.applyAsInt(least), good);
        due("with the most, " + most, call.applyAsInt(most), good);
        outside(call, least, most, BAD);
    }

    /** Just outside and far off, on both sides. */
    void outside(IntUnaryOperator call, int least, int most, int refusal) {
        int[] numbers = {least - 1, most + 1, Integer.MIN_VALUE, Integer.MAX_VALUE};
        for (int v : numbers) {
            due("with " + v, call.applyAsInt(v), refusal);
        }
    }

    /** Every promise from one to another has a test of an edge. */
    void covers(int first, int last) {
        part("promises " + first + " to " + last);
        for (int p = first; p <= last; p++) {
            isTrue("promise " + p + " has a test of an edge", promises.contains(p));
        }
    }

    /** Ends the test with exit code 1 if an answer was wrong, or if none was asked for. */
    void end() {
        System.out.println((edges == 0 ? "" : edges + " edges, ") + made + " answers, " + wrong + " wrong");
        if (wrong != 0 || made == 0) {
            System.exit(1);
        }
    }
}
