/**
 * For each sentence of the document that names a boundary case of DIRTY, SPREAD, HIT, ROUND, RANK
 * or of what stays told, a test of its own, which bears the sentence.
 */
public final class SpreadBoundaryTests extends Checks {
    private static final int HIT = 0;
    private static final int ROUND = 1;
    private static final int RANK = 2;

    public static void main(String[] args) {
        touchOfTheSameCellTwice();
        touchOfAllCells();
        touchBeforeTheFormula();
        touchStaysWhenTheFormulaGoes();
        spreadOfNothing();
        hitByACellInItsBlock();
        hitByACellNextToItsBlock();
        hitByACellItHangsOn();
        hangsOnAFormulaByOneCell();
        hangsOnNoFormulaNextToIt();
        hangsOnTheFormulasThatAreThereNow();
        hitByHoweverMany();
        hitIsAll();
        hitGoesOneWay();
        hitCountsOnce();
        roundByItself();
        roundByTwo();
        roundByHoweverMany();
        roundIsOnlyWhatHangsOnItself();
        roundOnlyWhenHit();
        rankOfRoundIsNone();
        rankWithoutHitBelow();
        rankWhereAllBelowAreRound();
        rankBesideRound();
        rankIsTheGreatest();
        rankCountsOnlyHit();
        rankOfADirtyOneInAChain();
        noCellIsDirtyAfterwards();
        toldBeforeAnySpread();
        toldStaysTillTheNextSpread();
        toldOfTheLatestSpread();
        toldOfFormulasThatWereNotThere();
        toldOfFormulasPutAnew();
        end("all boundaries of a spread hold");
    }

    // Promise 5

    private static void touchOfTheSameCellTwice() {
        about("5: That CELL is DIRTY, also when it was");
        HangGraph g = new HangGraph();
        g.put(3, 3, 1, 1);
        g.touch(3, 3);
        g.touch(3, 3);
        due(1, g::spread);
        g.touch(3, 3);
        g.touch(3, 3);
        g.touch(3, 3);
        due(1, g::spread);
        due(0, g::spread);
    }

    private static void touchOfAllCells() {
        about("5: all CELLS are DIRTY");
        HangGraph g = new HangGraph();
        g.put(0, 0, 1, 1);
        g.put(19, 19, 1, 1);
        g.put(5, 5, 9, 9);
        touchAll(g);
        due(3, g::spread);
        tell(g, 0, 0, 1, 0, 1);
        tell(g, 19, 19, 1, 0, 1);
        tell(g, 5, 5, 1, 0, 1);
        due(0, g::spread);
    }

    private static void touchBeforeTheFormula() {
        about("5: That CELL is DIRTY, before there is a FORMULA over it or that hangs on it");
        HangGraph over = new HangGraph();
        over.touch(7, 7);
        over.put(6, 6, 2, 2);
        due(1, over::spread);
        HangGraph hanging = new HangGraph();
        hanging.touch(7, 7);
        hanging.put(0, 0, 1, 1);
        hanging.speak(0, 0, 7, 7, 7, 7);
        due(1, hanging::spread);
    }

    private static void touchStaysWhenTheFormulaGoes() {
        about("5: That CELL is DIRTY, also when the FORMULA over it goes");
        HangGraph g = new HangGraph();
        g.put(6, 6, 2, 2);
        g.touch(7, 7);
        g.out(6, 6);
        g.put(0, 0, 1, 1);
        g.speak(0, 0, 7, 7, 7, 7);
        g.put(7, 7, 1, 1);
        due(2, g::spread);
        tell(g, 7, 7, 1, 0, 1);
        tell(g, 0, 0, 1, 0, 2);
    }

    // Promise 6: HIT

    private static void spreadOfNothing() {
        about("6: Answers how many are HIT, 0 without FORMULAS or DIRTY CELLS");
        HangGraph g = new HangGraph();
        due(0, g::spread);
        due(0, g::spread);
        touchAll(g);
        due(0, g::spread);
        g.put(0, 0, 20, 20);
        g.speak(0, 0, 0, 0, 19, 19);
        due(0, g::spread);
        tell(g, 0, 0, 0, 0, 0);
        g.out(0, 0);
        due(0, g::spread);
    }

    private static void hitByACellInItsBlock() {
        about("Terms: HIT are the FORMULAS with a DIRTY CELL in their BLOCK");
        int[][] blocks = {{0, 0, 20, 20}, {0, 0, 1, 20}, {0, 19, 20, 1}, {17, 16, 3, 4}, {5, 5, 1, 1}};
        for (int[] a : blocks) {
            int[][] corners = {
                {a[0], a[1]}, {a[0], a[1] + a[3] - 1}, {a[0] + a[2] - 1, a[1]},
                {a[0] + a[2] - 1, a[1] + a[3] - 1}, {a[0] + a[2] / 2, a[1] + a[3] / 2}
            };
            HangGraph g = new HangGraph();
            g.put(a[0], a[1], a[2], a[3]);
            for (int[] corner : corners) {
                g.touch(corner[0], corner[1]);
                due(1, g::spread);
                tell(g, a[0], a[1], 1, 0, 1);
                due(0, g::spread);
            }
        }
    }

    private static void hitByACellNextToItsBlock() {
        about("Terms: HIT are not the FORMULAS with a DIRTY CELL beside their BLOCK");
        HangGraph g = new HangGraph();
        g.put(5, 6, 3, 4);
        for (int r = 4; r <= 8; r++) {
            for (int c = 5; c <= 10; c++) {
                boolean beside = r == 4 || r == 8 || c == 5 || c == 10;
                if (beside) {
                    g.touch(r, c);
                }
            }
        }
        due(0, g::spread);
        tell(g, 5, 6, 0, 0, 0);
        g.put(0, 19, 1, 1);
        g.put(1, 0, 1, 1);
        g.touch(0, 19);
        due(1, g::spread);
        tell(g, 0, 19, 1, 0, 1);
        tell(g, 1, 0, 0, 0, 0);
    }

    private static void hitByACellItHangsOn() {
        about("Terms: HIT are all that hang on a DIRTY CELL, though it is in no BLOCK");
        HangGraph g = new HangGraph();
        g.put(0, 0, 1, 1);
        g.speak(0, 0, 17, 18, 19, 19);
        g.speak(0, 0, 9, 9, 9, 9);
        int[][] inside = {{17, 18}, {17, 19}, {19, 18}, {19, 19}, {18, 18}, {9, 9}};
        for (int[] cell : inside) {
            g.touch(cell[0], cell[1]);
            due(1, g::spread);
            tell(g, 0, 0, 1, 0, 1);
        }
        int[][] beside = {{16, 18}, {17, 17}, {19, 17}, {8, 9}, {10, 9}, {9, 8}, {9, 10}, {18, 17}};
        for (int[] cell : beside) {
            g.touch(cell[0], cell[1]);
            due(0, g::spread);
            tell(g, 0, 0, 0, 0, 0);
        }
    }

    private static void hangsOnAFormulaByOneCell() {
        about("Terms: and so on the FORMULAS in whose BLOCKS one of them is");
        int[][] rectangles = {
            {0, 0, 5, 6}, {0, 9, 5, 19}, {7, 0, 19, 6}, {7, 9, 19, 19}, {6, 7, 6, 7}, {0, 8, 19, 8},
            {6, 0, 6, 19}
        };
        for (int[] a : rectangles) {
            HangGraph g = new HangGraph();
            g.put(5, 6, 3, 4);
            g.put(12, 7, 1, 1);
            g.speak(12, 7, a[0], a[1], a[2], a[3]);
            // the dirty cell is in the block, and in most of these not in the rectangle
            g.touch(6, 9);
            due(2, g::spread);
            tell(g, 12, 7, 1, 0, 2);
            g.out(12, 7);
            g.touch(6, 9);
            due(1, g::spread);
        }
    }

    private static void hangsOnNoFormulaNextToIt() {
        about("Terms: and not on the FORMULAS in whose BLOCKS none of them is");
        HangGraph g = new HangGraph();
        g.put(5, 6, 3, 4);
        g.put(18, 18, 1, 1);
        g.speak(18, 18, 0, 0, 4, 17);
        g.speak(18, 18, 8, 0, 17, 17);
        g.speak(18, 18, 5, 0, 7, 5);
        g.speak(18, 18, 5, 10, 7, 17);
        for (int r = 5; r <= 7; r++) {
            for (int c = 6; c <= 9; c++) {
                g.touch(r, c);
            }
        }
        due(1, g::spread);
        tell(g, 5, 6, 1, 0, 1);
        tell(g, 18, 18, 0, 0, 0);
    }

    private static void hangsOnTheFormulasThatAreThereNow() {
        about("Terms: HANGS ON those CELLS, and so on the FORMULAS there, put before or after");
        HangGraph g = new HangGraph();
        g.put(0, 0, 1, 1);
        g.speak(0, 0, 5, 5, 5, 5);
        g.put(5, 5, 1, 2);
        g.touch(5, 6);
        due(2, g::spread);
        tell(g, 0, 0, 1, 0, 2);
        g.out(5, 5);
        g.touch(5, 6);
        due(0, g::spread);
        g.put(4, 4, 2, 2);
        g.touch(4, 4);
        due(2, g::spread);
        tell(g, 0, 0, 1, 0, 2);
    }

    private static void hitByHoweverMany() {
        about("Terms: or on a HIT FORMULA, by however many");
        // 255 puts, 254 rectangles, a touch and a spread leave one call of the 512
        for (int end = 0; end < 255; end += 127) {
            int last = end;
            HangGraph g = chain(255, 1);
            g.touch(0, 0);
            due(255, g::spread);
            due(last + 1, () -> g.told(last / 20, last % 20, RANK));
            HangGraph back = chain(255, -1);
            back.touch(254 / 20, 254 % 20);
            due(255, back::spread);
            due(255 - last, () -> back.told(last / 20, last % 20, RANK));
        }
    }

    private static void hitIsAll() {
        about("6: Answers how many are HIT, of a full GRID, and where all are");
        HangGraph g = full();
        for (int row = 0; row < 20; row++) {
            for (int column = 0; column < 5; column++) {
                g.touch(row, column);
            }
        }
        due(100, g::spread);
        HangGraph one = new HangGraph();
        one.put(0, 0, 1, 1);
        for (int cell = 1; cell < 250; cell++) {
            one.put(cell / 20, cell % 20, 1, 1);
            one.speak(cell / 20, cell % 20, 0, 0, 0, 0);
        }
        one.touch(0, 0);
        due(250, one::spread);
        due(2, () -> one.told(12, 9, RANK));
    }

    private static void hitGoesOneWay() {
        about("Terms: HIT is not what a HIT FORMULA hangs on");
        HangGraph g = new HangGraph();
        putRow(g, 3);
        hang(g, new int[][] {{1, 0}, {2, 1}});
        g.touch(0, 1);
        due(2, g::spread);
        tellRow(g, HIT, 0, 1, 1);
        tellRow(g, RANK, 0, 1, 2);
        g.touch(0, 2);
        due(1, g::spread);
        tellRow(g, HIT, 0, 0, 1);
    }

    private static void hitCountsOnce() {
        about("6: Answers how many are HIT, each once, though by several ways");
        HangGraph g = new HangGraph();
        putRow(g, 4);
        hang(g, new int[][] {{1, 0}, {2, 0}, {3, 1}, {3, 2}, {3, 0}, {3, 0}});
        g.speak(0, 3, 10, 10, 12, 12);
        g.touch(0, 0);
        g.touch(0, 3);
        g.touch(10, 10);
        g.touch(12, 12);
        due(4, g::spread);
    }

    // Promise 6: ROUND

    private static void roundByItself() {
        about("Terms: ROUND are those that hang on themselves, by one CELL of their own BLOCK");
        int[][] cells = {{5, 6}, {5, 9}, {7, 6}, {7, 9}, {6, 7}};
        for (int[] cell : cells) {
            HangGraph g = new HangGraph();
            g.put(5, 6, 3, 4);
            g.speak(5, 6, cell[0], cell[1], cell[0], cell[1]);
            g.touch(6, 8);
            due(1, g::spread);
            tell(g, 5, 6, 1, 1, 0);
        }
        HangGraph beside = new HangGraph();
        beside.put(5, 6, 3, 4);
        beside.speak(5, 6, 0, 0, 4, 19);
        beside.speak(5, 6, 8, 0, 19, 19);
        beside.speak(5, 6, 5, 0, 7, 5);
        beside.speak(5, 6, 5, 10, 7, 19);
        beside.touch(6, 8);
        due(1, beside::spread);
        tell(beside, 5, 6, 1, 0, 1);
    }

    private static void roundByTwo() {
        about("Terms: ROUND are those that, by HIT ones, hang on themselves: two");
        for (int touched = 0; touched < 2; touched++) {
            HangGraph g = new HangGraph();
            putRow(g, 3);
            hang(g, new int[][] {{0, 1}, {1, 0}});
            g.touch(0, touched);
            due(2, g::spread);
            tellRow(g, ROUND, 1, 1, 0);
            tellRow(g, RANK, 0, 0, 0);
        }
    }

    private static void roundByHoweverMany() {
        about("Terms: ROUND are those that, by HIT ones, hang on themselves: by however many");
        // 254 puts, 254 rectangles, a touch and a spread leave two calls of the 512
        for (int end = 0; end < 254; end += 23) {
            int at = end;
            HangGraph g = chain(254, 1);
            g.speak(0, 0, 253 / 20, 253 % 20, 253 / 20, 253 % 20);
            g.touch(at / 20, at % 20);
            due(254, g::spread);
            due(1, () -> g.told((253 - at) / 20, (253 - at) % 20, ROUND));
            due(0, () -> g.told(at / 20, at % 20, RANK));
        }
    }

    private static void roundIsOnlyWhatHangsOnItself() {
        about("Terms: ROUND is not what only hangs on ROUND ones, or what they hang on");
        HangGraph g = new HangGraph();
        putRow(g, 5);
        hang(g, new int[][] {{1, 0}, {1, 2}, {2, 1}, {3, 2}, {4, 3}});
        g.touch(0, 0);
        due(5, g::spread);
        tellRow(g, ROUND, 0, 1, 1, 0, 0);
        tellRow(g, RANK, 1, 0, 0, 1, 2);
    }

    private static void roundOnlyWhenHit() {
        about("Terms: ROUND are those HIT ones");
        HangGraph g = new HangGraph();
        putRow(g, 4);
        hang(g, new int[][] {{0, 0}, {1, 2}, {2, 1}});
        g.touch(0, 3);
        due(1, g::spread);
        tellRow(g, HIT, 0, 0, 0, 1);
        tellRow(g, ROUND, 0, 0, 0, 0);
        g.touch(0, 0);
        due(1, g::spread);
        tellRow(g, ROUND, 1, 0, 0, 0);
        g.touch(0, 1);
        due(2, g::spread);
        tellRow(g, ROUND, 0, 1, 1, 0);
    }

    // Promise 6: RANK

    private static void rankOfRoundIsNone() {
        about("Terms: RANK of a HIT one: ROUND: 0");
        HangGraph g = new HangGraph();
        putRow(g, 4);
        hang(g, new int[][] {{1, 0}, {2, 1}, {3, 2}, {3, 3}});
        g.touch(0, 0);
        due(4, g::spread);
        tellRow(g, ROUND, 0, 0, 0, 1);
        tellRow(g, RANK, 1, 2, 3, 0);
    }

    private static void rankWithoutHitBelow() {
        about("Terms: RANK of a HIT one: 1 if there is none");
        HangGraph g = new HangGraph();
        putRow(g, 3);
        hang(g, new int[][] {{1, 0}});
        g.speak(0, 2, 10, 0, 10, 19);
        g.touch(0, 1);
        g.touch(10, 5);
        due(2, g::spread);
        tellRow(g, RANK, 0, 1, 1);
    }

    private static void rankWhereAllBelowAreRound() {
        about("Terms: RANK of a HIT one: 1 if all of these are ROUND");
        HangGraph g = new HangGraph();
        putRow(g, 5);
        hang(g, new int[][] {{0, 0}, {1, 2}, {2, 1}, {3, 0}, {3, 1}, {3, 2}, {4, 3}, {4, 0}});
        g.touch(0, 0);
        g.touch(0, 1);
        due(5, g::spread);
        tellRow(g, ROUND, 1, 1, 1, 0, 0);
        tellRow(g, RANK, 0, 0, 0, 1, 2);
    }

    private static void rankBesideRound() {
        about("Terms: RANK: 1 more than the greatest, where some of these are ROUND");
        HangGraph g = new HangGraph();
        putRow(g, 5);
        hang(g, new int[][] {{1, 0}, {2, 1}, {3, 3}, {3, 2}, {4, 3}, {4, 1}});
        g.touch(0, 0);
        due(5, g::spread);
        tellRow(g, RANK, 1, 2, 3, 0, 3);
    }

    private static void rankIsTheGreatest() {
        about("Terms: RANK: 1 more than the greatest RANK of HIT ones it hangs on");
        int[][] ways = {{3, 2}, {3, 1}, {3, 0}, {2, 1}, {1, 0}, {4, 0}, {4, 3}};
        HangGraph one = new HangGraph();
        putRow(one, 5);
        hang(one, ways);
        one.touch(0, 0);
        due(5, one::spread);
        tellRow(one, RANK, 1, 2, 3, 4, 5);
        HangGraph all = new HangGraph();
        putRow(all, 20);
        for (int c = 1; c < 20; c++) {
            all.speak(0, c, 0, 0, 0, c - 1);
        }
        all.touch(0, 0);
        due(20, all::spread);
        for (int c = 0; c < 20; c++) {
            int column = c;
            due(column + 1, () -> all.told(0, column, RANK));
        }
    }

    private static void rankCountsOnlyHit() {
        about("Terms: RANK counts HIT ones alone, of the latest SPREAD");
        HangGraph g = new HangGraph();
        putRow(g, 4);
        hang(g, new int[][] {{1, 0}, {2, 1}, {3, 2}});
        g.touch(0, 0);
        due(4, g::spread);
        tellRow(g, RANK, 1, 2, 3, 4);
        g.touch(0, 2);
        due(2, g::spread);
        tellRow(g, RANK, 0, 0, 1, 2);
        g.touch(0, 3);
        due(1, g::spread);
        tellRow(g, RANK, 0, 0, 0, 1);
    }

    private static void rankOfADirtyOneInAChain() {
        about("Terms: RANK: a DIRTY CELL in its BLOCK is no reason for RANK 1");
        HangGraph g = new HangGraph();
        putRow(g, 3);
        hang(g, new int[][] {{1, 0}, {2, 1}});
        g.speak(0, 2, 10, 10, 10, 10);
        g.touch(0, 0);
        g.touch(0, 1);
        g.touch(0, 2);
        g.touch(10, 10);
        due(3, g::spread);
        tellRow(g, RANK, 1, 2, 3);
    }

    private static void noCellIsDirtyAfterwards() {
        about("Terms: Then no CELL is DIRTY");
        HangGraph g = new HangGraph();
        g.put(3, 3, 1, 1);
        touchAll(g);
        due(1, g::spread);
        due(0, g::spread);
        g.put(4, 0, 16, 20);
        g.put(0, 0, 3, 20);
        g.speak(3, 3, 0, 0, 19, 19);
        due(0, g::spread);
        tell(g, 3, 3, 0, 0, 0);
        HangGraph empty = new HangGraph();
        empty.touch(0, 0);
        due(0, empty::spread);
        empty.put(0, 0, 1, 1);
        due(0, empty::spread);
    }

    // Promise 7

    private static void toldBeforeAnySpread() {
        about("7: before any SPREAD a FORMULA is one that was not there then");
        HangGraph g = new HangGraph();
        g.put(0, 0, 1, 1);
        tell(g, 0, 0, 0, 0, 0);
        g.speak(0, 0, 0, 0, 0, 0);
        g.touch(0, 0);
        tell(g, 0, 0, 0, 0, 0);
        g.spread();
        tell(g, 0, 0, 1, 1, 0);
    }

    private static void toldStaysTillTheNextSpread() {
        about("Terms: What was HIT, ROUND, RANK stays told till the next SPREAD");
        HangGraph g = new HangGraph();
        putRow(g, 6);
        hang(g, new int[][] {{1, 0}, {2, 1}, {3, 2}, {3, 4}, {4, 3}});
        g.touch(0, 0);
        due(5, g::spread);
        for (int n = 0; n < 2; n++) {
            tellRow(g, HIT, 1, 1, 1, 1, 1, 0);
            tellRow(g, ROUND, 0, 0, 0, 1, 1, 0);
            tellRow(g, RANK, 1, 2, 3, 0, 0, 0);
        }
        g.touch(0, 5);
        g.speak(0, 0, 0, 0, 0, 5);
        g.put(1, 0, 1, 20);
        g.out(0, 4);
        tellRow(g, HIT, 1, 1, 1, 1);
        tellRow(g, ROUND, 0, 0, 0, 1);
        tellRow(g, RANK, 1, 2, 3, 0);
        g.out(0, 1);
        tell(g, 0, 2, 1, 0, 3);
        tell(g, 0, 5, 0, 0, 0);
    }

    private static void toldOfTheLatestSpread() {
        about("7: Of the latest SPREAD");
        HangGraph g = new HangGraph();
        putRow(g, 3);
        hang(g, new int[][] {{1, 0}, {2, 2}});
        g.touch(0, 0);
        g.touch(0, 2);
        due(3, g::spread);
        tellRow(g, RANK, 1, 2, 0);
        tellRow(g, ROUND, 0, 0, 1);
        due(0, g::spread);
        tellRow(g, HIT, 0, 0, 0);
        tellRow(g, ROUND, 0, 0, 0);
        tellRow(g, RANK, 0, 0, 0);
        g.touch(0, 1);
        due(1, g::spread);
        tellRow(g, HIT, 0, 1, 0);
        tellRow(g, RANK, 0, 1, 0);
    }

    private static void toldOfFormulasThatWereNotThere() {
        about("Terms: FORMULAS that were not there then count as not HIT");
        HangGraph g = new HangGraph();
        g.put(5, 5, 2, 2);
        g.speak(5, 5, 5, 5, 5, 5);
        g.touch(0, 0);
        g.touch(5, 5);
        due(1, g::spread);
        g.put(0, 0, 1, 1);
        g.speak(0, 0, 0, 0, 19, 19);
        tell(g, 0, 0, 0, 0, 0);
        g.out(5, 5);
        // over cells of one that was hit, but another formula
        g.put(6, 6, 1, 1);
        g.put(5, 5, 1, 1);
        tell(g, 6, 6, 0, 0, 0);
        tell(g, 5, 5, 0, 0, 0);
    }

    private static void toldOfFormulasPutAnew() {
        about("Terms: FORMULAS that were put anew since count as not HIT");
        HangGraph g = new HangGraph();
        putRow(g, 2);
        hang(g, new int[][] {{0, 0}, {1, 0}});
        g.touch(0, 0);
        due(2, g::spread);
        tellRow(g, ROUND, 1, 0);
        tellRow(g, RANK, 0, 1);
        for (int c = 0; c < 2; c++) {
            g.out(0, c);
            g.put(0, c, 1, 1);
            g.speak(0, c, 0, 0, 0, 0);
            tell(g, 0, c, 0, 0, 0);
        }
        due(0, g::spread);
        g.touch(0, 0);
        due(2, g::spread);
        tellRow(g, ROUND, 1, 0);
        tellRow(g, RANK, 0, 1);
    }

    /** One formula over each cell from 0 on, each hanging on the one that is step cells before. */
    private static HangGraph chain(int length, int step) {
        HangGraph g = new HangGraph();
        for (int cell = 0; cell < length; cell++) {
            int below = cell - step;
            g.put(cell / 20, cell % 20, 1, 1);
            if (below >= 0 && below < length) {
                g.speak(cell / 20, cell % 20, below / 20, below % 20, below / 20, below % 20);
            }
        }
        return g;
    }

    private static HangGraph full() {
        HangGraph g = new HangGraph();
        for (int cell = 0; cell < 400; cell++) {
            g.put(cell / 20, cell % 20, 1, 1);
        }
        return g;
    }

    private static void touchAll(HangGraph g) {
        for (int cell = 0; cell < 400; cell++) {
            g.touch(cell / 20, cell % 20);
        }
    }

    /** One formula over each of the first cells of row 0, named by its column from here on. */
    private static void putRow(HangGraph g, int count) {
        for (int c = 0; c < count; c++) {
            g.put(0, c, 1, 1);
        }
    }

    private static void hang(HangGraph g, int[][] pairs) {
        for (int[] pair : pairs) {
            g.speak(0, pair[0], 0, pair[1], 0, pair[1]);
        }
    }

    private static void tellRow(HangGraph g, int what, int... want) {
        for (int c = 0; c < want.length; c++) {
            int column = c;
            due(want[column], () -> g.told(0, column, what));
        }
    }

    private static void tell(HangGraph g, int r, int c, int hit, int round, int rank) {
        due(hit, () -> g.told(r, c, HIT));
        due(round, () -> g.told(r, c, ROUND));
        due(rank, () -> g.told(r, c, RANK));
    }
}
