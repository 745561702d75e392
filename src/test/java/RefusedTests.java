import java.util.ArrayList;
import java.util.List;

/**
 * "A call that throws changes nothing.": each refused call is made on an object, and all that the
 * object answers afterwards is held against an object like it on which the call was not made.
 */
public final class RefusedTests extends Checks {
    private interface Maker {
        HangGraph make();
    }

    private interface CallOn {
        int answer(HangGraph g);
    }

    private interface Probe {
        String look(HangGraph g);
    }

    private static final class Refusal {
        final Class<?> due;
        final CallOn call;

        Refusal(Class<?> due, CallOn call) {
            this.due = due;
            this.call = call;
        }
    }

    private static final int[] OFF = {-1, 20, 32, Integer.MIN_VALUE, Integer.MAX_VALUE, 214748365};

    /** No probe changes what another sees: each has an object of its own. */
    private static final Probe[] PROBES = {
        RefusedTests::owners, RefusedTests::toldOfAll, RefusedTests::spreadAndToldOfAll,
        RefusedTests::rectangleCounts, RefusedTests::spreadOfEachRow, RefusedTests::formulaCount
    };

    public static void main(String[] args) {
        changesNothing("without FORMULAS", HangGraph::new, refusedWithout());
        changesNothing("some FORMULAS, after a SPREAD", RefusedTests::some, refusedOfSome());
        changesNothing("one FORMULA over all", RefusedTests::one, refusedOfOne());
        changesNothing("a full GRID", RefusedTests::full, refusedOfFull());
        end("all refused calls change nothing");
    }

    private static void changesNothing(String state, Maker maker, List<Refusal> refusals) {
        for (int n = 0; n < PROBES.length; n++) {
            Probe probe = PROBES[n];
            String want = probe.look(maker.make());
            HangGraph afterAll = maker.make();
            for (int k = 0; k < refusals.size(); k++) {
                Refusal refusal = refusals.get(k);
                about("A call that throws changes nothing: " + state + ", call " + k + ", probe " + n);
                HangGraph afterOne = maker.make();
                thrown(refusal.due, () -> refusal.call.answer(afterOne));
                thrown(refusal.due, () -> refusal.call.answer(afterOne));
                thrown(refusal.due, () -> refusal.call.answer(afterAll));
                same(want, probe.look(afterOne));
            }
            about("A call that throws changes nothing: " + state + ", all calls, probe " + n);
            same(want, probe.look(afterAll));
        }
    }

    // The objects

    /**
     * A chain, one that is round, one with 20 rectangles, one put after the spread, and cells that
     * are dirty for the next.
     */
    private static HangGraph some() {
        HangGraph g = new HangGraph();
        g.put(0, 0, 2, 2);
        g.put(0, 5, 1, 1);
        g.speak(0, 5, 1, 1, 2, 2);
        g.put(5, 0, 3, 3);
        g.speak(5, 0, 7, 2, 9, 4);
        g.put(10, 10, 1, 1);
        for (int n = 0; n < 20; n++) {
            g.speak(10, 10, n, 5, n, 5);
        }
        g.put(19, 19, 1, 1);
        g.touch(0, 1);
        g.touch(9, 4);
        g.spread();
        g.put(15, 0, 1, 20);
        g.speak(15, 0, 10, 10, 10, 10);
        g.touch(19, 19);
        g.touch(3, 5);
        return g;
    }

    private static HangGraph one() {
        HangGraph g = new HangGraph();
        g.put(0, 0, 20, 20);
        g.touch(19, 0);
        g.spread();
        g.touch(0, 19);
        return g;
    }

    private static HangGraph full() {
        HangGraph g = new HangGraph();
        for (int cell = 0; cell < 400; cell++) {
            g.put(cell / 20, cell % 20, 1, 1);
        }
        g.speak(0, 1, 0, 0, 0, 0);
        g.touch(0, 0);
        g.spread();
        return g;
    }

    // The refused calls

    private static List<Refusal> refusedWithout() {
        List<Refusal> list = badNumbers(0, 0);
        add(list, NO_FORMULA, g -> g.out(0, 0));
        add(list, NO_FORMULA, g -> g.out(19, 19));
        add(list, NO_FORMULA, g -> g.speak(0, 0, 0, 0, 19, 19));
        add(list, NO_FORMULA, g -> g.told(0, 0, 0));
        return list;
    }

    private static List<Refusal> refusedOfSome() {
        List<Refusal> list = badNumbers(0, 0);
        list.addAll(badNumbers(10, 10));
        list.addAll(badNumbers(19, 19));
        add(list, OVERLAP, g -> g.put(0, 0, 2, 2));
        add(list, OVERLAP, g -> g.put(1, 1, 1, 1));
        add(list, OVERLAP, g -> g.put(8, 8, 3, 3));
        add(list, OVERLAP, g -> g.put(14, 4, 2, 1));
        add(list, OVERLAP, g -> g.put(0, 0, 20, 20));
        add(list, OVERLAP, g -> g.put(16, 16, 4, 4));
        add(list, NO_FORMULA, g -> g.out(1, 1));
        add(list, NO_FORMULA, g -> g.out(0, 1));
        add(list, NO_FORMULA, g -> g.out(15, 19));
        add(list, NO_FORMULA, g -> g.out(12, 12));
        add(list, NO_FORMULA, g -> g.speak(1, 0, 0, 0, 19, 19));
        add(list, NO_FORMULA, g -> g.speak(12, 12, 0, 0, 19, 19));
        add(list, TOO_MANY, g -> g.speak(10, 10, 0, 0, 19, 19));
        add(list, TOO_MANY, g -> g.speak(10, 10, 10, 10, 10, 10));
        add(list, NO_FORMULA, g -> g.told(1, 1, 0));
        add(list, NO_FORMULA, g -> g.told(12, 12, 2));
        return list;
    }

    private static List<Refusal> refusedOfOne() {
        List<Refusal> list = badNumbers(0, 0);
        add(list, OVERLAP, g -> g.put(0, 0, 20, 20));
        add(list, OVERLAP, g -> g.put(19, 19, 1, 1));
        add(list, NO_FORMULA, g -> g.out(19, 19));
        add(list, NO_FORMULA, g -> g.speak(0, 1, 0, 0, 19, 19));
        add(list, NO_FORMULA, g -> g.told(1, 0, 0));
        return list;
    }

    /** Only a few, since 403 of the 512 calls have made the object and a probe needs some too. */
    private static List<Refusal> refusedOfFull() {
        List<Refusal> list = new ArrayList<>();
        add(list, OVERLAP, g -> g.put(0, 0, 20, 20));
        add(list, OVERLAP, g -> g.put(19, 19, 1, 1));
        add(list, BAD_ARGUMENT, g -> g.put(19, 19, 1, 2));
        add(list, BAD_ARGUMENT, g -> g.out(0, 20));
        add(list, BAD_ARGUMENT, g -> g.speak(0, 0, 1, 0, 0, 0));
        add(list, BAD_ARGUMENT, g -> touched(g, 20, 0));
        add(list, BAD_ARGUMENT, g -> g.told(0, 0, 3));
        add(list, BAD_ARGUMENT, g -> g.owner(-1, 20));
        return list;
    }

    /** Each argument of each call out of its range, the others right for a formula at this cell. */
    private static List<Refusal> badNumbers(int r, int c) {
        List<Refusal> list = new ArrayList<>();
        for (int off : OFF) {
            add(list, BAD_ARGUMENT, g -> g.put(off, c, 1, 1));
            add(list, BAD_ARGUMENT, g -> g.put(r, off, 1, 1));
            add(list, BAD_ARGUMENT, g -> g.out(off, c));
            add(list, BAD_ARGUMENT, g -> g.out(r, off));
            add(list, BAD_ARGUMENT, g -> g.speak(off, c, 0, 0, 19, 19));
            add(list, BAD_ARGUMENT, g -> g.speak(r, off, 0, 0, 19, 19));
            add(list, BAD_ARGUMENT, g -> g.speak(r, c, off, 0, 19, 19));
            add(list, BAD_ARGUMENT, g -> g.speak(r, c, 0, off, 19, 19));
            add(list, BAD_ARGUMENT, g -> g.speak(r, c, 0, 0, off, 19));
            add(list, BAD_ARGUMENT, g -> g.speak(r, c, 0, 0, 19, off));
            add(list, BAD_ARGUMENT, g -> touched(g, off, c));
            add(list, BAD_ARGUMENT, g -> touched(g, r, off));
            add(list, BAD_ARGUMENT, g -> g.told(off, c, 0));
            add(list, BAD_ARGUMENT, g -> g.told(r, off, 0));
            add(list, BAD_ARGUMENT, g -> g.told(r, c, off));
            add(list, BAD_ARGUMENT, g -> g.owner(off, c));
            add(list, BAD_ARGUMENT, g -> g.owner(r, off));
        }
        add(list, BAD_ARGUMENT, g -> g.put(r, c, 0, 1));
        add(list, BAD_ARGUMENT, g -> g.put(r, c, 1, 0));
        add(list, BAD_ARGUMENT, g -> g.put(r, c, 21 - r, 1));
        add(list, BAD_ARGUMENT, g -> g.put(r, c, 1, 21 - c));
        add(list, BAD_ARGUMENT, g -> g.put(3, 3, 17, 18));
        add(list, BAD_ARGUMENT, g -> g.put(3, 3, 18, 17));
        add(list, BAD_ARGUMENT, g -> g.put(r, c, Integer.MAX_VALUE, 1));
        add(list, BAD_ARGUMENT, g -> g.put(r, c, 1, Integer.MIN_VALUE));
        add(list, BAD_ARGUMENT, g -> g.speak(r, c, 19, 0, 18, 19));
        add(list, BAD_ARGUMENT, g -> g.speak(r, c, 0, 19, 19, 18));
        add(list, BAD_ARGUMENT, g -> g.told(r, c, 3));
        return list;
    }

    private static void add(List<Refusal> list, Class<?> due, CallOn call) {
        list.add(new Refusal(due, call));
    }

    // The probes

    /** Of some cells in and beside the blocks: not all, since an object has 512 calls. */
    private static String owners(HangGraph g) {
        StringBuilder text = new StringBuilder("owners");
        int[] cells = {0, 1, 19, 20, 21, 22, 60, 63, 188, 210, 284, 300, 319, 380, 398, 399};
        for (int cell : cells) {
            text.append(' ').append(g.owner(cell / 20, cell % 20));
        }
        return text.toString();
    }

    private static String toldOfAll(HangGraph g) {
        StringBuilder text = new StringBuilder("told");
        int[][] named = {{0, 0}, {0, 1}, {0, 5}, {5, 0}, {10, 10}, {15, 0}, {19, 19}};
        for (int[] cell : named) {
            for (int what = 0; what <= 2; what++) {
                int asked = what;
                text.append(' ').append(answer(() -> g.told(cell[0], cell[1], asked)));
            }
        }
        return text.toString();
    }

    private static String spreadAndToldOfAll(HangGraph g) {
        return "spread " + g.spread() + " " + toldOfAll(g);
    }

    private static String rectangleCounts(HangGraph g) {
        StringBuilder text = new StringBuilder("rectangles");
        int[][] named = {{0, 0}, {0, 1}, {0, 5}, {5, 0}, {10, 10}, {15, 0}, {19, 19}};
        for (int[] cell : named) {
            text.append(' ').append(answer(() -> g.speak(cell[0], cell[1], 4, 4, 4, 4)));
        }
        return text.toString();
    }

    /** A rectangle or a dirty cell too many shows in one of these. */
    private static String spreadOfEachRow(HangGraph g) {
        StringBuilder text = new StringBuilder("spread").append(' ').append(g.spread());
        for (int row = 0; row < 20; row++) {
            g.touch(row, (7 * row + 4) % 20);
            text.append(' ').append(g.spread());
        }
        return text.toString();
    }

    private static String formulaCount(HangGraph g) {
        return "put " + answer(() -> g.put(12, 12, 1, 1)) + " out " + answer(() -> g.out(0, 0));
    }

    private static String answer(Call call) {
        try {
            return String.valueOf(call.answer());
        } catch (RuntimeException e) {
            return e.getClass().getSimpleName();
        }
    }
}
