/**
 * For each sentence of the document that names a boundary case of an argument, of the grid or of
 * what is thrown, a test of its own, which bears the sentence. Those of a spread and of what stays
 * told of it stand in SpreadBoundaryTests, and those of refused calls in RefusedTests.
 */
public final class BoundaryTests extends Checks {
    private interface CellCall {
        int at(HangGraph g, int r, int c);
    }

    private static final int LEAST = Integer.MIN_VALUE;
    private static final int MOST = Integer.MAX_VALUE;

    /** No rows and no columns; with 32 a shift wraps around, with the long ones 20 times a row. */
    private static final int[] OFF = {
        -1, -2, -20, LEAST, LEAST + 1, -214748364, 20, 21, 32, 400, MOST, MOST - 1, 214748365
    };

    /** Rows and columns that are no cell, though 20 row + column is the number of one. */
    private static final int[][] OFF_PAIRS = {
        {0, 20}, {0, 399}, {1, -1}, {-1, 20}, {20, -1}, {20, -400}, {-1, 419}, {19, -380}
    };

    public static void main(String[] args) {
        newObjectHasNoFormulas();
        newObjectHasNoDirtyCells();
        gridHasTwentyRowsAndColumns();
        cellsOfPut();
        cellsOfOut();
        cellsOfSpeak();
        cellsOfTouch();
        cellsOfTold();
        cellsOfOwner();
        cellIsTwentyRowPlusColumn();
        putSizeTooSmall();
        putSizeTooLarge();
        putBlockJustFits();
        putBlockJustBeyond();
        putSizesWrapAround();
        putOverlapOfOneCell();
        putOverlapOfAnyShape();
        putSideBySide();
        putHasNoRectangles();
        putAnswersHowMany();
        fullGridOfFormulas();
        oneFormulaOverTheGrid();
        outOfNoFormula();
        outOfTheLast();
        outFreesTheBlock();
        formulaNamedByFirstCell();
        speakRectangleJustFits();
        speakRectangleJustBeyond();
        speakNumbersTooSmallAndTooLarge();
        speakTopAboveBottom();
        speakLeftAboveRight();
        speakOfNoFormula();
        twentiethAndTwentyFirstRectangle();
        twentyRectanglesOfEachFormula();
        toldWhat();
        toldOfNoFormula();
        ownerWithout();
        ownerAtTheEdgesOfABlock();
        order();
        fiveHundredAndTwelveCalls();
        end("all boundaries of arguments, grid and exceptions hold");
    }

    // Promise 1

    private static void newObjectHasNoFormulas() {
        about("1: No FORMULAS");
        HangGraph owners = new HangGraph();
        HangGraph outs = new HangGraph();
        HangGraph speaks = new HangGraph();
        HangGraph tolds = new HangGraph();
        for (int cell = 0; cell < 400; cell++) {
            int r = cell / 20;
            int c = cell % 20;
            due(-1, () -> owners.owner(r, c));
            thrown(NO_FORMULA, () -> outs.out(r, c));
            thrown(NO_FORMULA, () -> speaks.speak(r, c, 0, 0, 0, 0));
            thrown(NO_FORMULA, () -> tolds.told(r, c, 0));
        }
        due(0, new HangGraph()::spread);
        due(1, () -> new HangGraph().put(0, 0, 1, 1));
    }

    private static void newObjectHasNoDirtyCells() {
        about("Terms: DIRTY CELLS: none at first");
        HangGraph g = new HangGraph();
        g.put(0, 0, 20, 20);
        g.speak(0, 0, 0, 0, 19, 19);
        due(0, g::spread);
        due(0, full()::spread);
    }

    // Terms: the cells

    private static void gridHasTwentyRowsAndColumns() {
        about("Terms: THE GRID has 20 rows and 20 columns");
        int[][] corners = {{0, 0}, {0, 19}, {19, 0}, {19, 19}};
        for (int[] corner : corners) {
            int r = corner[0];
            int c = corner[1];
            HangGraph g = new HangGraph();
            due(-1, () -> g.owner(r, c));
            due(1, () -> g.put(r, c, 1, 1));
            due(20 * r + c, () -> g.owner(r, c));
            due(1, () -> g.speak(r, c, 5, 5, 5, 5));
            due(0, () -> touched(g, r, c));
            due(1, g::spread);
            due(1, () -> g.told(r, c, 0));
            due(0, () -> g.out(r, c));
        }
    }

    private static void cellsOfPut() {
        about("2: r, c a CELL (so for all)");
        offGrid((g, r, c) -> g.put(r, c, 1, 1));
    }

    private static void cellsOfOut() {
        about("3: r, c a CELL (so for all)");
        offGrid((g, r, c) -> g.out(r, c));
    }

    private static void cellsOfSpeak() {
        about("4: r, c a CELL (so for all)");
        offGrid((g, r, c) -> g.speak(r, c, 0, 0, 0, 0));
    }

    private static void cellsOfTouch() {
        about("5: r, c a CELL (so for all)");
        offGrid((g, r, c) -> touched(g, r, c));
    }

    private static void cellsOfTold() {
        about("7: r, c a CELL (so for all)");
        offGrid((g, r, c) -> g.told(r, c, 0));
    }

    private static void cellsOfOwner() {
        about("8: r, c a CELL (so for all)");
        offGrid((g, r, c) -> g.owner(r, c));
    }

    /** Without formulas, with one over all cells and with one over each cell. */
    private static void offGrid(CellCall call) {
        offGridOf(new HangGraph(), call);
        HangGraph one = new HangGraph();
        one.put(0, 0, 20, 20);
        offGridOf(one, call);
        offGridOf(full(), call);
    }

    private static void offGridOf(HangGraph g, CellCall call) {
        for (int off : OFF) {
            thrown(BAD_ARGUMENT, () -> call.at(g, off, 0));
            thrown(BAD_ARGUMENT, () -> call.at(g, off, 19));
            thrown(BAD_ARGUMENT, () -> call.at(g, 0, off));
            thrown(BAD_ARGUMENT, () -> call.at(g, 19, off));
            thrown(BAD_ARGUMENT, () -> call.at(g, off, off));
        }
        for (int[] pair : OFF_PAIRS) {
            thrown(BAD_ARGUMENT, () -> call.at(g, pair[0], pair[1]));
        }
    }

    private static void cellIsTwentyRowPlusColumn() {
        about("Terms: CELLS 20 row + column");
        for (int firstRow = 0; firstRow < 20; firstRow += 10) {
            HangGraph g = new HangGraph();
            for (int cell = 20 * firstRow; cell < 20 * firstRow + 200; cell++) {
                g.put(cell / 20, cell % 20, 1, 1);
            }
            for (int cell = 20 * firstRow; cell < 20 * firstRow + 200; cell++) {
                int asked = cell;
                due(asked, () -> g.owner(asked / 20, asked % 20));
            }
        }
    }

    // Promise 2

    private static void putSizeTooSmall() {
        about("2: h, w 1 or more");
        HangGraph g = new HangGraph();
        int[] small = {0, -1, -2, -20, LEAST, LEAST + 1};
        for (int size : small) {
            thrown(BAD_ARGUMENT, () -> g.put(5, 5, size, 1));
            thrown(BAD_ARGUMENT, () -> g.put(5, 5, 1, size));
            thrown(BAD_ARGUMENT, () -> g.put(5, 5, size, size));
            thrown(BAD_ARGUMENT, () -> g.put(0, 0, size, 20));
            thrown(BAD_ARGUMENT, () -> g.put(0, 0, 20, size));
            thrown(BAD_ARGUMENT, () -> g.put(19, 19, size, 1));
            thrown(BAD_ARGUMENT, () -> g.put(19, 19, 1, size));
        }
        due(1, () -> g.put(5, 5, 1, 1));
        due(2, () -> g.put(6, 5, 1, 2));
        due(3, () -> g.put(7, 5, 2, 1));
    }

    private static void putSizeTooLarge() {
        about("2: h, w too large for any BLOCK");
        HangGraph g = new HangGraph();
        int[] large = {21, 22, 40, 400, 1 << 16, MOST - 1, MOST};
        for (int size : large) {
            thrown(BAD_ARGUMENT, () -> g.put(0, 0, size, 1));
            thrown(BAD_ARGUMENT, () -> g.put(0, 0, 1, size));
            thrown(BAD_ARGUMENT, () -> g.put(0, 0, size, size));
            thrown(BAD_ARGUMENT, () -> g.put(19, 19, size, 1));
            thrown(BAD_ARGUMENT, () -> g.put(19, 19, 1, size));
        }
        due(1, () -> g.put(0, 0, 20, 20));
    }

    private static void putBlockJustFits() {
        about("Terms: a BLOCK that just fits on THE GRID");
        for (int start = 0; start < 20; start++) {
            int at = start;
            HangGraph down = new HangGraph();
            due(1, () -> down.put(at, 3, 20 - at, 1));
            due(20 * at + 3, () -> down.owner(19, 3));
            HangGraph across = new HangGraph();
            due(1, () -> across.put(3, at, 1, 20 - at));
            due(60 + at, () -> across.owner(3, 19));
            HangGraph both = new HangGraph();
            due(1, () -> both.put(at, at, 20 - at, 20 - at));
            due(21 * at, () -> both.owner(19, 19));
        }
    }

    private static void putBlockJustBeyond() {
        about("Terms: IllegalArgumentException: a block beyond THE GRID");
        HangGraph g = new HangGraph();
        for (int start = 0; start < 20; start++) {
            int at = start;
            thrown(BAD_ARGUMENT, () -> g.put(at, 3, 21 - at, 1));
            thrown(BAD_ARGUMENT, () -> g.put(3, at, 1, 21 - at));
            thrown(BAD_ARGUMENT, () -> g.put(at, at, 20 - at, 21 - at));
            thrown(BAD_ARGUMENT, () -> g.put(at, at, 21 - at, 20 - at));
        }
        due(1, () -> g.put(0, 0, 1, 1));
    }

    private static void putSizesWrapAround() {
        about("Terms: a block beyond THE GRID, where r + h or c + w wraps around");
        HangGraph g = new HangGraph();
        for (int start = 0; start < 20; start++) {
            int at = start;
            thrown(BAD_ARGUMENT, () -> g.put(at, 0, MOST, 1));
            thrown(BAD_ARGUMENT, () -> g.put(0, at, 1, MOST));
            thrown(BAD_ARGUMENT, () -> g.put(at, 0, MOST - at + 1, 1));
            thrown(BAD_ARGUMENT, () -> g.put(0, at, 1, MOST - at + 1));
            thrown(BAD_ARGUMENT, () -> g.put(at, 0, LEAST, 1));
            thrown(BAD_ARGUMENT, () -> g.put(0, at, 1, LEAST));
        }
        thrown(BAD_ARGUMENT, () -> g.put(0, 0, 1 << 16, 1 << 16));
        due(1, () -> g.put(0, 0, 1, 1));
    }

    private static void putOverlapOfOneCell() {
        about("Terms: IllegalStateException: BLOCKS would overlap, by one CELL");
        HangGraph single = new HangGraph();
        single.put(5, 6, 3, 4);
        int count = 1;
        for (int cell = 0; cell < 400; cell++) {
            int r = cell / 20;
            int c = cell % 20;
            if (r >= 5 && r <= 7 && c >= 6 && c <= 9) {
                thrown(OVERLAP, () -> single.put(r, c, 1, 1));
            } else {
                count++;
                int want = count;
                due(want, () -> single.put(r, c, 1, 1));
            }
        }
        HangGraph corners = new HangGraph();
        corners.put(5, 6, 3, 4);
        thrown(OVERLAP, () -> corners.put(3, 4, 3, 3));
        thrown(OVERLAP, () -> corners.put(3, 9, 3, 3));
        thrown(OVERLAP, () -> corners.put(7, 4, 3, 3));
        thrown(OVERLAP, () -> corners.put(7, 9, 3, 3));
        thrown(OVERLAP, () -> corners.put(0, 0, 6, 7));
        thrown(OVERLAP, () -> corners.put(7, 9, 13, 11));
    }

    private static void putOverlapOfAnyShape() {
        about("Terms: BLOCKS don't overlap, within, around, across or the same");
        HangGraph g = new HangGraph();
        g.put(5, 6, 3, 4);
        thrown(OVERLAP, () -> g.put(5, 6, 3, 4));
        thrown(OVERLAP, () -> g.put(6, 7, 1, 2));
        thrown(OVERLAP, () -> g.put(4, 5, 5, 6));
        thrown(OVERLAP, () -> g.put(0, 0, 20, 20));
        thrown(OVERLAP, () -> g.put(6, 0, 1, 20));
        thrown(OVERLAP, () -> g.put(0, 7, 20, 1));
        thrown(OVERLAP, () -> g.put(4, 7, 5, 2));
        thrown(OVERLAP, () -> g.put(6, 5, 1, 6));
        thrown(OVERLAP, () -> g.put(5, 0, 3, 7));
        thrown(OVERLAP, () -> g.put(0, 6, 6, 4));
        due(2, () -> g.put(0, 0, 1, 1));
    }

    private static void putSideBySide() {
        about("Terms: BLOCKS that touch one another don't overlap");
        HangGraph g = new HangGraph();
        g.put(5, 6, 3, 4);
        due(2, () -> g.put(0, 0, 5, 6));
        due(3, () -> g.put(0, 6, 5, 4));
        due(4, () -> g.put(0, 10, 5, 10));
        due(5, () -> g.put(5, 0, 3, 6));
        due(6, () -> g.put(5, 10, 3, 10));
        due(7, () -> g.put(8, 0, 12, 6));
        due(8, () -> g.put(8, 6, 12, 4));
        due(9, () -> g.put(8, 10, 12, 10));
    }

    private static void putHasNoRectangles() {
        about("2: A FORMULA with that BLOCK and no RECTANGLES");
        HangGraph g = new HangGraph();
        g.put(5, 5, 2, 2);
        touchAllBut(g, 5, 5, 2, 2);
        due(0, g::spread);
        due(1, () -> g.speak(5, 5, 0, 0, 19, 19));
        g.out(5, 5);
        g.put(5, 5, 2, 2);
        g.touch(0, 0);
        due(0, g::spread);
        due(1, () -> g.speak(5, 5, 0, 0, 0, 0));
    }

    private static void putAnswersHowMany() {
        about("2: Answers how many there are");
        HangGraph g = new HangGraph();
        for (int n = 1; n <= 400; n++) {
            int want = n;
            due(want, () -> g.put((want - 1) / 20, (want - 1) % 20, 1, 1));
        }
        HangGraph less = new HangGraph();
        due(1, () -> less.put(0, 0, 2, 2));
        thrown(OVERLAP, () -> less.put(1, 1, 1, 1));
        thrown(BAD_ARGUMENT, () -> less.put(2, 2, 0, 1));
        due(2, () -> less.put(2, 2, 1, 1));
        due(1, () -> less.out(0, 0));
        due(2, () -> less.put(1, 1, 1, 1));
    }

    private static void fullGridOfFormulas() {
        about("2: THE GRID full of FORMULAS");
        HangGraph g = full();
        int[][] blocks = {{0, 0, 1, 1}, {19, 19, 1, 1}, {7, 11, 1, 1}, {0, 0, 20, 20}, {3, 3, 2, 2}};
        for (int[] a : blocks) {
            thrown(OVERLAP, () -> g.put(a[0], a[1], a[2], a[3]));
        }
        due(399, () -> g.owner(19, 19));
        due(399, () -> g.out(7, 11));
        thrown(OVERLAP, () -> g.put(7, 11, 1, 2));
        due(400, () -> g.put(7, 11, 1, 1));
        thrown(OVERLAP, () -> g.put(7, 11, 1, 1));
        due(1, () -> g.speak(19, 19, 0, 0, 19, 19));
        g.touch(0, 0);
        due(2, g::spread);
    }

    private static void oneFormulaOverTheGrid() {
        about("2: one BLOCK over the whole of THE GRID");
        HangGraph owners = new HangGraph();
        owners.put(0, 0, 20, 20);
        HangGraph puts = new HangGraph();
        puts.put(0, 0, 20, 20);
        for (int cell = 0; cell < 400; cell++) {
            int r = cell / 20;
            int c = cell % 20;
            due(0, () -> owners.owner(r, c));
            thrown(OVERLAP, () -> puts.put(r, c, 1, 1));
        }
        puts.touch(19, 19);
        due(1, puts::spread);
        due(0, () -> puts.told(0, 0, 1));
        due(1, () -> puts.speak(0, 0, 19, 0, 19, 0));
        puts.touch(0, 19);
        due(1, puts::spread);
        due(1, () -> puts.told(0, 0, 1));
        due(0, () -> puts.out(0, 0));
        due(1, () -> puts.put(19, 19, 1, 1));
    }

    // Promise 3

    private static void outOfNoFormula() {
        about("3: NoSuchElementException: there is no such FORMULA");
        HangGraph g = new HangGraph();
        thrown(NO_FORMULA, () -> g.out(0, 0));
        g.put(5, 5, 2, 2);
        thrown(NO_FORMULA, () -> g.out(4, 5));
        thrown(NO_FORMULA, () -> g.out(5, 4));
        thrown(NO_FORMULA, () -> g.out(7, 5));
        due(0, () -> g.out(5, 5));
        thrown(NO_FORMULA, () -> g.out(5, 5));
    }

    private static void outOfTheLast() {
        about("3: That FORMULA goes. Answers how many there are, down to 0");
        HangGraph g = new HangGraph();
        for (int c = 0; c < 20; c++) {
            g.put(0, c, 1, 1);
        }
        for (int c = 0; c < 20; c++) {
            int column = c;
            due(19 - column, () -> g.out(0, column));
        }
        due(1, () -> g.put(0, 0, 20, 20));
        due(0, () -> g.out(0, 0));
        g.touch(0, 0);
        due(0, g::spread);
    }

    private static void outFreesTheBlock() {
        about("3: That FORMULA goes, with all the CELLS of its BLOCK and no others");
        HangGraph g = new HangGraph();
        g.put(5, 5, 3, 3);
        g.put(4, 5, 1, 3);
        g.put(8, 5, 1, 3);
        g.put(5, 4, 3, 1);
        g.put(5, 8, 3, 1);
        due(4, () -> g.out(5, 5));
        for (int r = 5; r <= 7; r++) {
            for (int c = 5; c <= 7; c++) {
                int row = r;
                int column = c;
                due(-1, () -> g.owner(row, column));
            }
        }
        due(85, () -> g.owner(4, 7));
        due(165, () -> g.owner(8, 7));
        due(104, () -> g.owner(7, 4));
        due(108, () -> g.owner(7, 8));
        due(5, () -> g.put(5, 5, 3, 2));
        due(6, () -> g.put(5, 7, 3, 1));
    }

    private static void formulaNamedByFirstCell() {
        about("Terms: A FORMULA is named by the first CELL (upper left) of its BLOCK");
        HangGraph g = new HangGraph();
        g.put(5, 6, 3, 4);
        for (int r = 5; r <= 7; r++) {
            for (int c = 6; c <= 9; c++) {
                if (r != 5 || c != 6) {
                    int row = r;
                    int column = c;
                    thrown(NO_FORMULA, () -> g.out(row, column));
                    thrown(NO_FORMULA, () -> g.speak(row, column, 0, 0, 0, 0));
                    thrown(NO_FORMULA, () -> g.told(row, column, 0));
                    due(106, () -> g.owner(row, column));
                }
            }
        }
        due(1, () -> g.speak(5, 6, 0, 0, 0, 0));
        due(0, () -> g.told(5, 6, 0));
        due(0, () -> g.out(5, 6));
    }

    // Promise 4

    private static void speakRectangleJustFits() {
        about("4: a RECTANGLE that just fits on THE GRID, also of one CELL, row or column");
        int[][] spans = {{0, 0}, {0, 19}, {19, 19}, {0, 1}, {18, 19}, {7, 7}, {6, 8}};
        for (int[] rows : spans) {
            for (int[] columns : spans) {
                speaksOfJust(rows[0], columns[0], rows[1], columns[1]);
            }
        }
    }

    /** Each cell alone hits it or not: 400 touches are too many for one object, with the spreads. */
    private static void speaksOfJust(int t, int l, int b, int r2) {
        for (int cells = 0; cells < 400; cells += 200) {
            HangGraph g = new HangGraph();
            g.put(12, 12, 1, 1);
            due(1, () -> g.speak(12, 12, t, l, b, r2));
            for (int cell = cells; cell < cells + 200; cell++) {
                int r = cell / 20;
                int c = cell % 20;
                boolean inside = r >= t && r <= b && c >= l && c <= r2;
                boolean own = r == 12 && c == 12;
                g.touch(r, c);
                due(inside || own ? 1 : 0, g::spread);
            }
        }
    }

    private static void speakRectangleJustBeyond() {
        about("Terms: IllegalArgumentException: a rectangle beyond THE GRID");
        HangGraph g = new HangGraph();
        g.put(0, 0, 1, 1);
        thrown(BAD_ARGUMENT, () -> g.speak(0, 0, 0, 0, 20, 19));
        thrown(BAD_ARGUMENT, () -> g.speak(0, 0, 0, 0, 19, 20));
        thrown(BAD_ARGUMENT, () -> g.speak(0, 0, -1, 0, 19, 19));
        thrown(BAD_ARGUMENT, () -> g.speak(0, 0, 0, -1, 19, 19));
        thrown(BAD_ARGUMENT, () -> g.speak(0, 0, 20, 0, 20, 0));
        thrown(BAD_ARGUMENT, () -> g.speak(0, 0, 0, 20, 0, 20));
        thrown(BAD_ARGUMENT, () -> g.speak(0, 0, -1, 0, -1, 0));
        thrown(BAD_ARGUMENT, () -> g.speak(0, 0, 0, -1, 0, -1));
        thrown(BAD_ARGUMENT, () -> g.speak(0, 0, 1, -1, 1, 0));
        thrown(BAD_ARGUMENT, () -> g.speak(0, 0, 18, 19, 18, 20));
        due(1, () -> g.speak(0, 0, 0, 0, 19, 19));
    }

    private static void speakNumbersTooSmallAndTooLarge() {
        about("4: t, l, b, r2 out of range");
        HangGraph g = new HangGraph();
        g.put(0, 0, 1, 1);
        for (int off : OFF) {
            thrown(BAD_ARGUMENT, () -> g.speak(0, 0, off, 0, 0, 0));
            thrown(BAD_ARGUMENT, () -> g.speak(0, 0, off, 0, 19, 0));
            thrown(BAD_ARGUMENT, () -> g.speak(0, 0, 0, off, 0, 0));
            thrown(BAD_ARGUMENT, () -> g.speak(0, 0, 0, off, 0, 19));
            thrown(BAD_ARGUMENT, () -> g.speak(0, 0, 0, 0, off, 0));
            thrown(BAD_ARGUMENT, () -> g.speak(0, 0, 19, 0, off, 0));
            thrown(BAD_ARGUMENT, () -> g.speak(0, 0, 0, 0, 0, off));
            thrown(BAD_ARGUMENT, () -> g.speak(0, 0, 0, 19, 0, off));
            thrown(BAD_ARGUMENT, () -> g.speak(0, 0, off, 0, off, 0));
            thrown(BAD_ARGUMENT, () -> g.speak(0, 0, 0, off, 0, off));
        }
        thrown(BAD_ARGUMENT, () -> g.speak(0, 0, LEAST, LEAST, MOST, MOST));
        due(1, () -> g.speak(0, 0, 0, 0, 0, 0));
    }

    private static void speakTopAboveBottom() {
        about("4: t above b: out of range");
        HangGraph g = new HangGraph();
        g.put(0, 0, 1, 1);
        for (int b = 0; b < 19; b++) {
            int bottom = b;
            thrown(BAD_ARGUMENT, () -> g.speak(0, 0, bottom + 1, 0, bottom, 19));
            thrown(BAD_ARGUMENT, () -> g.speak(0, 0, 19, 5, bottom, 5));
        }
        for (int b = 0; b < 20; b++) {
            int bottom = b;
            due(bottom + 1, () -> g.speak(0, 0, bottom, 0, bottom, 19));
        }
    }

    private static void speakLeftAboveRight() {
        about("4: l above r2: out of range");
        HangGraph g = new HangGraph();
        g.put(0, 0, 1, 1);
        for (int r2 = 0; r2 < 19; r2++) {
            int right = r2;
            thrown(BAD_ARGUMENT, () -> g.speak(0, 0, 0, right + 1, 19, right));
            thrown(BAD_ARGUMENT, () -> g.speak(0, 0, 5, 19, 5, right));
        }
        for (int r2 = 0; r2 < 20; r2++) {
            int right = r2;
            due(right + 1, () -> g.speak(0, 0, 0, right, 19, right));
        }
    }

    private static void speakOfNoFormula() {
        about("4: NoSuchElementException: there is no such FORMULA");
        HangGraph g = new HangGraph();
        thrown(NO_FORMULA, () -> g.speak(0, 0, 0, 0, 19, 19));
        g.put(0, 0, 2, 2);
        thrown(NO_FORMULA, () -> g.speak(0, 2, 0, 0, 0, 0));
        thrown(NO_FORMULA, () -> g.speak(2, 0, 0, 0, 0, 0));
        due(1, () -> g.speak(0, 0, 0, 0, 0, 0));
        g.out(0, 0);
        thrown(NO_FORMULA, () -> g.speak(0, 0, 0, 0, 0, 0));
    }

    private static void twentiethAndTwentyFirstRectangle() {
        about("Terms: IndexOutOfBoundsException: more than 20 RECTANGLES");
        HangGraph same = new HangGraph();
        same.put(0, 0, 1, 1);
        HangGraph apart = new HangGraph();
        apart.put(0, 0, 1, 1);
        for (int n = 1; n <= 20; n++) {
            int want = n;
            due(want, () -> same.speak(0, 0, 4, 4, 4, 4));
            due(want, () -> apart.speak(0, 0, want - 1, 10, want - 1, 10));
        }
        thrown(TOO_MANY, () -> same.speak(0, 0, 4, 4, 4, 4));
        thrown(TOO_MANY, () -> same.speak(0, 0, 0, 0, 19, 19));
        thrown(TOO_MANY, () -> apart.speak(0, 0, 0, 10, 0, 10));
        thrown(TOO_MANY, () -> apart.speak(0, 0, 5, 5, 5, 5));
        for (int r = 0; r < 20; r++) {
            apart.touch(r, 10);
            due(1, apart::spread);
        }
        apart.touch(5, 5);
        due(0, apart::spread);
    }

    private static void twentyRectanglesOfEachFormula() {
        about("Terms: Each has up to 20 RECTANGLES");
        HangGraph g = new HangGraph();
        for (int c = 0; c < 20; c++) {
            g.put(0, c, 1, 1);
        }
        for (int n = 1; n <= 20; n++) {
            for (int c = 0; c < 20; c++) {
                int want = n;
                int column = c;
                due(want, () -> g.speak(0, column, 1, 0, 19, 19));
            }
        }
        for (int c = 0; c < 20; c++) {
            int column = c;
            thrown(TOO_MANY, () -> g.speak(0, column, 1, 0, 19, 19));
        }
        g.out(0, 7);
        g.put(0, 7, 1, 1);
        for (int n = 1; n <= 20; n++) {
            int want = n;
            due(want, () -> g.speak(0, 7, 1, 0, 19, 19));
        }
        thrown(TOO_MANY, () -> g.speak(0, 7, 1, 0, 19, 19));
    }

    // Promises 7 and 8

    private static void toldWhat() {
        about("7: what 0 .. 2");
        HangGraph g = new HangGraph();
        g.put(0, 0, 1, 1);
        int[] whats = {-1, -2, LEAST, LEAST + 1, 3, 4, MOST - 1, MOST};
        for (int spreads = 0; spreads < 2; spreads++) {
            for (int what : whats) {
                thrown(BAD_ARGUMENT, () -> g.told(0, 0, what));
            }
            g.touch(0, 0);
            g.spread();
        }
        due(1, () -> g.told(0, 0, 0));
        due(0, () -> g.told(0, 0, 1));
        due(1, () -> g.told(0, 0, 2));
    }

    private static void toldOfNoFormula() {
        about("7: NoSuchElementException: there is no such FORMULA");
        HangGraph g = new HangGraph();
        g.put(5, 5, 2, 2);
        g.touch(5, 5);
        g.spread();
        for (int what = 0; what <= 2; what++) {
            int asked = what;
            thrown(NO_FORMULA, () -> g.told(5, 6, asked));
            thrown(NO_FORMULA, () -> g.told(5, 7, asked));
            thrown(NO_FORMULA, () -> g.told(0, 0, asked));
        }
        g.out(5, 5);
        for (int what = 0; what <= 2; what++) {
            int asked = what;
            thrown(NO_FORMULA, () -> g.told(5, 5, asked));
        }
    }

    private static void ownerWithout() {
        about("8: -1 without");
        HangGraph g = new HangGraph();
        due(-1, () -> g.owner(0, 0));
        due(-1, () -> g.owner(19, 19));
        g.put(0, 0, 1, 1);
        due(0, () -> g.owner(0, 0));
        due(-1, () -> g.owner(0, 1));
        due(-1, () -> g.owner(1, 0));
        g.touch(0, 1);
        g.speak(0, 0, 0, 1, 0, 1);
        g.spread();
        due(-1, () -> g.owner(0, 1));
        g.out(0, 0);
        due(-1, () -> g.owner(0, 0));
    }

    private static void ownerAtTheEdgesOfABlock() {
        about("8: The first CELL of the FORMULA in whose BLOCK a CELL is");
        int[][] blocks = {
            {0, 0, 1, 1}, {0, 0, 3, 2}, {17, 18, 3, 2}, {0, 17, 20, 3}, {18, 0, 2, 20}, {6, 7, 4, 5}
        };
        for (int[] a : blocks) {
            HangGraph g = new HangGraph();
            g.put(a[0], a[1], a[2], a[3]);
            for (int cell = 0; cell < 400; cell++) {
                int r = cell / 20;
                int c = cell % 20;
                boolean inside = r >= a[0] && r < a[0] + a[2] && c >= a[1] && c < a[1] + a[3];
                due(inside ? 20 * a[0] + a[1] : -1, () -> g.owner(r, c));
            }
        }
    }

    // Terms: what is thrown

    private static void order() {
        about("Terms: What is thrown, in this order");
        HangGraph g = new HangGraph();
        g.put(5, 5, 2, 2);
        for (int n = 0; n < 20; n++) {
            g.speak(5, 5, 0, 0, 0, 0);
        }
        argumentBeforeOverlap(g);
        for (int off : OFF) {
            // no formula is at 9, 9, and the one at 5, 5 has all its rectangles
            for (int first = 5; first <= 9; first += 4) {
                int at = first;
                thrown(BAD_ARGUMENT, () -> g.speak(at, at, off, 0, 19, 0));
                thrown(BAD_ARGUMENT, () -> g.speak(at, at, 0, off, 0, 19));
                thrown(BAD_ARGUMENT, () -> g.speak(at, at, 0, 0, off, 0));
                thrown(BAD_ARGUMENT, () -> g.speak(at, at, 0, 0, 0, off));
            }
        }
        for (int first = 5; first <= 9; first += 4) {
            int at = first;
            thrown(BAD_ARGUMENT, () -> g.speak(at, at, 1, 0, 0, 0));
            thrown(BAD_ARGUMENT, () -> g.speak(at, at, 0, 1, 0, 0));
        }
        int[] whats = {-1, 3, LEAST, MOST};
        for (int what : whats) {
            thrown(BAD_ARGUMENT, () -> g.told(9, 9, what));
            thrown(BAD_ARGUMENT, () -> g.told(6, 6, what));
        }
        thrown(NO_FORMULA, () -> g.speak(6, 6, 0, 0, 0, 0));
        thrown(TOO_MANY, () -> g.speak(5, 5, 0, 0, 0, 0));
    }

    /** The block is over taken cells and is empty or beyond the grid too. */
    private static void argumentBeforeOverlap(HangGraph g) {
        int[] sizes = {0, -1, LEAST, 16, 21, MOST};
        for (int size : sizes) {
            thrown(BAD_ARGUMENT, () -> g.put(5, 5, size, 1));
            thrown(BAD_ARGUMENT, () -> g.put(5, 5, 1, size));
        }
        thrown(BAD_ARGUMENT, () -> g.put(4, 4, 17, 2));
        thrown(BAD_ARGUMENT, () -> g.put(4, 4, 2, 17));
        thrown(OVERLAP, () -> g.put(4, 4, 16, 16));
    }

    // What it is

    private static void fiveHundredAndTwelveCalls() {
        about("What it is: An object is used for at most 512 calls");
        HangGraph turns = new HangGraph();
        for (int n = 0; n < 256; n++) {
            due(1, () -> turns.put(0, 0, 20, 20));
            due(0, () -> turns.out(0, 0));
        }
        HangGraph refused = new HangGraph();
        for (int n = 0; n < 511; n++) {
            thrown(BAD_ARGUMENT, () -> refused.put(0, 0, 0, 0));
        }
        due(1, () -> refused.put(0, 0, 1, 1));
        HangGraph spreads = new HangGraph();
        due(1, () -> spreads.put(0, 0, 1, 1));
        due(1, () -> spreads.speak(0, 0, 0, 0, 0, 0));
        for (int n = 0; n < 255; n++) {
            spreads.touch(0, 0);
            due(1, spreads::spread);
        }
        HangGraph most = full();
        for (int n = 0; n < 110; n++) {
            int cell = n;
            due(1, () -> most.speak(cell / 20, cell % 20, 0, 0, 19, 19));
        }
        most.touch(0, 0);
        due(110, most::spread);
    }

    private static HangGraph full() {
        HangGraph g = new HangGraph();
        for (int cell = 0; cell < 400; cell++) {
            g.put(cell / 20, cell % 20, 1, 1);
        }
        return g;
    }

    private static void touchAllBut(HangGraph g, int r, int c, int h, int w) {
        for (int row = 0; row < 20; row++) {
            for (int column = 0; column < 20; column++) {
                boolean inside = row >= r && row < r + h && column >= c && column < c + w;
                if (!inside) {
                    g.touch(row, column);
                }
            }
        }
    }
}
