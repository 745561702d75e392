import java.util.Arrays;
import java.util.NoSuchElementException;

/**
 * What hangs on what in a grid: formulas over blocks of cells that speak of rectangles, what a
 * change reaches, which formulas hang on themselves, and in how many steps the others can be
 * worked out.
 *
 * <p>A set of cells is held as one int for each row of the grid, with one bit for each column.
 */
public final class HangGraph {
    private static final int SIDE = 20;
    private static final int CELLS = SIDE * SIDE;
    private static final int MOST_RECTANGLES = 20;

    private static final int ASK_HIT = 0;
    private static final int ASK_ROUND = 1;
    private static final int ASK_RANK = 2;

    /** For each cell the formula in whose block it is, or null. */
    private final Formula[] over;
    private final int[] dirtyRows;
    private final Sweep sweep;
    private int formulaCount;

    public HangGraph() {
        over = new Formula[CELLS];
        dirtyRows = new int[SIDE];
        sweep = new Sweep();
        formulaCount = 0;
    }

    public int put(int r, int c, int h, int w)
            throws IllegalArgumentException, IllegalStateException {
        requireCell(r, c);
        requireFits(r, h);
        requireFits(c, w);
        int bottom = r + h - 1;
        int right = c + w - 1;
        requireFree(r, c, bottom, right);
        Formula formula = new Formula(r, c, bottom, right);
        cover(formula, formula);
        formulaCount++;
        return formulaCount;
    }

    public int out(int r, int c) throws IllegalArgumentException, NoSuchElementException {
        requireCell(r, c);
        Formula formula = formulaNamed(r, c);
        cover(formula, null);
        formulaCount--;
        return formulaCount;
    }

    public int speak(int r, int c, int t, int l, int b, int r2)
            throws IllegalArgumentException, NoSuchElementException, IndexOutOfBoundsException {
        requireCell(r, c);
        requireSpan(t, b);
        requireSpan(l, r2);
        Formula formula = formulaNamed(r, c);
        if (formula.rectangleCount >= MOST_RECTANGLES) {
            throw new IndexOutOfBoundsException("the formula has 20 rectangles already");
        }
        formula.addRectangle(t, l, b, r2);
        return formula.rectangleCount;
    }

    public void touch(int r, int c) throws IllegalArgumentException {
        requireCell(r, c);
        dirtyRows[r] |= columnBits(c, c);
    }

    public int spread() {
        sweep.begin(over);
        sweep.findHit(dirtyRows);
        sweep.rankHit();
        Arrays.fill(dirtyRows, 0);
        return sweep.hitCount;
    }

    public int told(int r, int c, int what)
            throws IllegalArgumentException, NoSuchElementException {
        requireCell(r, c);
        if (what < ASK_HIT || what > ASK_RANK) {
            throw new IllegalArgumentException("what is not 0, 1 or 2");
        }
        Formula formula = formulaNamed(r, c);
        if (what == ASK_HIT) {
            return formula.hit ? 1 : 0;
        }
        if (what == ASK_ROUND) {
            return formula.round ? 1 : 0;
        }
        return formula.rank;
    }

    public int owner(int r, int c) throws IllegalArgumentException {
        requireCell(r, c);
        Formula formula = over[cellAt(r, c)];
        return formula == null ? -1 : formula.first;
    }

    private static int cellAt(int row, int column) {
        return SIDE * row + column;
    }

    /** The bits of the columns left .. right, both on the grid. */
    private static int columnBits(int left, int right) {
        return ((1 << (right - left + 1)) - 1) << left;
    }

    private static void requireCell(int row, int column) {
        if (row < 0 || row >= SIDE || column < 0 || column >= SIDE) {
            throw new IllegalArgumentException("no such cell");
        }
    }

    /** Compares with the room that is left, because start + length could wrap around. */
    private static void requireFits(int start, int length) {
        if (length < 1 || length > SIDE - start) {
            throw new IllegalArgumentException("the block is empty or beyond the grid");
        }
    }

    private static void requireSpan(int from, int to) {
        if (from < 0 || from > to || to >= SIDE) {
            throw new IllegalArgumentException("the rectangle is empty or beyond the grid");
        }
    }

    private void requireFree(int top, int left, int bottom, int right) {
        for (int row = top; row <= bottom; row++) {
            for (int column = left; column <= right; column++) {
                if (over[cellAt(row, column)] != null) {
                    throw new IllegalStateException("blocks would overlap");
                }
            }
        }
    }

    private Formula formulaNamed(int row, int column) {
        int cell = cellAt(row, column);
        Formula formula = over[cell];
        if (formula == null || formula.first != cell) {
            throw new NoSuchElementException("no formula has this first cell");
        }
        return formula;
    }

    /** Says of each cell in the block of a formula which formula, or null, is over it from now. */
    private void cover(Formula block, Formula from) {
        for (int row = block.top; row <= block.bottom; row++) {
            for (int column = block.left; column <= block.right; column++) {
                over[cellAt(row, column)] = from;
            }
        }
    }

    /** A formula, what it speaks of, and what the latest sweep found of it. */
    private static final class Formula {
        final int first;
        final int top;
        final int left;
        final int bottom;
        final int right;
        final int blockColumns;

        /** All its rectangles in one set: no call asks for a single one or takes one back. */
        final int[] spokenRows;
        int rectangleCount;

        boolean hit;
        boolean round;
        int rank;

        /** When the walk came here, from 1 on; 0 before that. */
        int number;
        /** The lowest number of an open formula that the walk has seen from here. */
        int lowest;
        /** How many hit formulas the walk has looked at from here. */
        int looked;
        /** Whether round and rank are known. */
        boolean settled;

        Formula(int top, int left, int bottom, int right) {
            this.first = cellAt(top, left);
            this.top = top;
            this.left = left;
            this.bottom = bottom;
            this.right = right;
            this.blockColumns = columnBits(left, right);
            this.spokenRows = new int[SIDE];
        }

        void addRectangle(int fromRow, int fromColumn, int toRow, int toColumn) {
            int columns = columnBits(fromColumn, toColumn);
            for (int row = fromRow; row <= toRow; row++) {
                spokenRows[row] |= columns;
            }
            rectangleCount++;
        }

        boolean hangsOn(Formula other) {
            for (int row = other.top; row <= other.bottom; row++) {
                if ((spokenRows[row] & other.blockColumns) != 0) {
                    return true;
                }
            }
            return false;
        }

        boolean hangsOnOneOf(int[] cellRows) {
            for (int row = 0; row < SIDE; row++) {
                if ((spokenRows[row] & cellRows[row]) != 0) {
                    return true;
                }
            }
            return false;
        }

        boolean holdsOneOf(int[] cellRows) {
            for (int row = top; row <= bottom; row++) {
                if ((blockColumns & cellRows[row]) != 0) {
                    return true;
                }
            }
            return false;
        }

        void forget() {
            hit = false;
            round = false;
            rank = 0;
            number = 0;
            lowest = 0;
            looked = 0;
            settled = false;
        }
    }

    /**
     * Works a spread out. It goes down from each hit formula to those it hangs on, and finds the
     * groups that hang on one another as Tarjan does, with rows of its own instead of recursion. A
     * group is closed after all that it hangs on, so that a rank is known before it is asked for.
     */
    private static final class Sweep {
        private final Formula[] live;
        private int liveCount;
        private final Formula[] hits;
        int hitCount;
        /** The formulas from the start of the walk to where it stands. */
        private final Formula[] path;
        private int pathLength;
        /** The formulas that the walk has come to and whose group is not closed. */
        private final Formula[] open;
        private int openCount;
        private int lastNumber;

        Sweep() {
            live = new Formula[CELLS];
            hits = new Formula[CELLS];
            path = new Formula[CELLS];
            open = new Formula[CELLS];
        }

        void begin(Formula[] over) {
            liveCount = 0;
            hitCount = 0;
            pathLength = 0;
            openCount = 0;
            lastNumber = 0;
            for (int cell = 0; cell < CELLS; cell++) {
                Formula formula = over[cell];
                if (formula != null && formula.first == cell) {
                    formula.forget();
                    live[liveCount] = formula;
                    liveCount++;
                }
            }
        }

        void findHit(int[] dirtyRows) {
            for (int i = 0; i < liveCount; i++) {
                Formula formula = live[i];
                if (formula.holdsOneOf(dirtyRows) || formula.hangsOnOneOf(dirtyRows)) {
                    addHit(formula);
                }
            }
            // hitCount grows on the way, up to one hit for each cell at most
            for (int i = 0; i < CELLS && i < hitCount; i++) {
                hitAllThatHangOn(hits[i]);
            }
        }

        private void hitAllThatHangOn(Formula base) {
            for (int i = 0; i < liveCount; i++) {
                Formula formula = live[i];
                if (!formula.hit && formula.hangsOn(base)) {
                    addHit(formula);
                }
            }
        }

        private void addHit(Formula formula) {
            formula.hit = true;
            hits[hitCount] = formula;
            hitCount++;
        }

        void rankHit() {
            for (int i = 0; i < hitCount; i++) {
                if (!hits[i].settled) {
                    walkFrom(hits[i]);
                }
            }
        }

        private void walkFrom(Formula start) {
            enter(start);
            // each step enters or leaves a formula, and each formula is entered and left once
            for (int step = 0; step < 2 * CELLS && pathLength > 0; step++) {
                Formula here = path[pathLength - 1];
                Formula next = nextBelow(here);
                if (next == null) {
                    leave(here);
                } else {
                    enter(next);
                }
            }
        }

        private void enter(Formula formula) {
            lastNumber++;
            formula.number = lastNumber;
            formula.lowest = lastNumber;
            path[pathLength] = formula;
            pathLength++;
            open[openCount] = formula;
            openCount++;
        }

        /** The next hit formula below this one that the walk has not come to, or null. */
        private Formula nextBelow(Formula here) {
            for (int i = here.looked; i < hitCount; i++) {
                Formula other = hits[i];
                if (other.settled || !here.hangsOn(other)) {
                    continue;
                }
                if (other.number == 0) {
                    here.looked = i + 1;
                    return other;
                }
                here.lowest = Math.min(here.lowest, other.number);
            }
            here.looked = hitCount;
            return null;
        }

        private void leave(Formula formula) {
            pathLength--;
            if (pathLength > 0) {
                Formula above = path[pathLength - 1];
                above.lowest = Math.min(above.lowest, formula.lowest);
            }
            if (formula.lowest == formula.number) {
                closeGroup(formula);
            }
        }

        /** The group is what was opened from its first formula on. */
        private void closeGroup(Formula groupFirst) {
            boolean alone = openCount > 0 && open[openCount - 1] == groupFirst;
            if (alone && !groupFirst.hangsOn(groupFirst)) {
                groupFirst.rank = 1 + greatestRankBelow(groupFirst);
                groupFirst.settled = true;
                openCount--;
                return;
            }
            while (openCount > 0 && open[openCount - 1].number >= groupFirst.number) {
                openCount--;
                open[openCount].round = true;
                open[openCount].settled = true;
            }
        }

        /** 0 also where all of these are round, since the rank of a round one is 0. */
        private int greatestRankBelow(Formula formula) {
            int greatest = 0;
            for (int i = 0; i < hitCount; i++) {
                if (formula.hangsOn(hits[i])) {
                    greatest = Math.max(greatest, hits[i].rank);
                }
            }
            return greatest;
        }
    }
}
