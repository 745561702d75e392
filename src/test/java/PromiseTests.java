/** For each promise of the document: ordinary inputs, the edges it names, and wrong inputs. */
public final class PromiseTests extends Checks {
    private static final int[] OFF_GRID = {-1, 20, 21, 400, Integer.MIN_VALUE, Integer.MAX_VALUE};

    public static void main(String[] args) {
        newObject();
        put();
        putWrong();
        putOverlap();
        out();
        outWrong();
        speak();
        speakWrong();
        speakTooMany();
        touch();
        touchWrong();
        spreadHit();
        spreadClearsDirty();
        spreadRound();
        spreadRank();
        spreadLongChain();
        spreadAllRound();
        told();
        toldStays();
        toldWrong();
        owner();
        ownerWrong();
        orderOfExceptions();
        throwingChangesNothing();
        objectsAreApart();
        end("all promises hold");
    }

    // Promise 1

    private static void newObject() {
        about("1 new object");
        HangGraph g = new HangGraph();
        for (int cell = 0; cell < 400; cell++) {
            int r = cell / 20;
            int c = cell % 20;
            due(-1, () -> g.owner(r, c));
        }
        thrown(NO_FORMULA, () -> g.told(0, 0, 0));
        thrown(NO_FORMULA, () -> g.out(19, 19));
        due(0, g::spread);
        due(1, () -> g.put(0, 0, 20, 20));
        due(0, g::spread);
        due(0, () -> g.told(0, 0, 0));
    }

    // Promise 2

    private static void put() {
        about("2 put");
        HangGraph g = new HangGraph();
        due(1, () -> g.put(0, 0, 1, 1));
        due(2, () -> g.put(0, 1, 1, 19));
        due(3, () -> g.put(1, 0, 19, 1));
        due(4, () -> g.put(1, 1, 19, 18));
        due(5, () -> g.put(19, 19, 1, 1));
        due(6, () -> g.put(1, 19, 18, 1));
        due(21, () -> g.owner(10, 10));
        due(1, () -> g.speak(1, 1, 0, 0, 0, 0));
        due(5, () -> g.out(1, 1));
        due(6, () -> g.put(1, 1, 19, 18));
        due(1, () -> g.speak(1, 1, 0, 0, 0, 0));

        HangGraph anew = new HangGraph();
        anew.put(5, 5, 2, 2);
        anew.speak(5, 5, 0, 0, 0, 0);
        anew.out(5, 5);
        anew.put(5, 5, 2, 2);
        anew.touch(0, 0);
        due(0, anew::spread);

        HangGraph whole = new HangGraph();
        due(1, () -> whole.put(0, 0, 20, 20));
        due(0, () -> whole.owner(19, 19));
    }

    private static void putWrong() {
        about("2 put, wrong");
        HangGraph g = new HangGraph();
        for (int off : OFF_GRID) {
            thrown(BAD_ARGUMENT, () -> g.put(off, 0, 1, 1));
            thrown(BAD_ARGUMENT, () -> g.put(0, off, 1, 1));
        }
        int[] sizes = {0, -1, 21, Integer.MIN_VALUE, Integer.MAX_VALUE};
        for (int size : sizes) {
            thrown(BAD_ARGUMENT, () -> g.put(0, 0, size, 1));
            thrown(BAD_ARGUMENT, () -> g.put(0, 0, 1, size));
            thrown(BAD_ARGUMENT, () -> g.put(19, 19, size, 1));
            thrown(BAD_ARGUMENT, () -> g.put(19, 19, 1, size));
        }
        thrown(BAD_ARGUMENT, () -> g.put(19, 0, 2, 1));
        thrown(BAD_ARGUMENT, () -> g.put(0, 19, 1, 2));
        thrown(BAD_ARGUMENT, () -> g.put(1, 0, 20, 1));
        thrown(BAD_ARGUMENT, () -> g.put(0, 1, 1, 20));
        due(1, () -> g.put(0, 0, 1, 1));
    }

    private static void putOverlap() {
        about("2 put, overlap");
        HangGraph g = new HangGraph();
        g.put(5, 5, 3, 4);
        thrown(OVERLAP, () -> g.put(5, 5, 3, 4));
        thrown(OVERLAP, () -> g.put(5, 5, 1, 1));
        thrown(OVERLAP, () -> g.put(7, 8, 1, 1));
        thrown(OVERLAP, () -> g.put(7, 8, 5, 5));
        thrown(OVERLAP, () -> g.put(0, 0, 6, 6));
        thrown(OVERLAP, () -> g.put(0, 0, 20, 20));
        thrown(OVERLAP, () -> g.put(6, 0, 1, 20));
        thrown(OVERLAP, () -> g.put(0, 6, 20, 1));
        due(-1, () -> g.owner(0, 0));
        due(2, () -> g.put(4, 0, 1, 20));
        due(3, () -> g.put(8, 0, 1, 20));
        due(4, () -> g.put(5, 4, 3, 1));
        due(5, () -> g.put(5, 9, 3, 1));
    }

    // Promise 3

    private static void out() {
        about("3 out");
        HangGraph g = new HangGraph();
        g.put(2, 3, 2, 2);
        g.put(2, 5, 1, 1);
        g.put(9, 9, 1, 1);
        g.speak(9, 9, 2, 3, 2, 3);
        due(2, () -> g.out(2, 3));
        due(-1, () -> g.owner(2, 3));
        due(-1, () -> g.owner(3, 4));
        due(45, () -> g.owner(2, 5));
        thrown(NO_FORMULA, () -> g.out(2, 3));
        g.touch(3, 4);
        due(0, g::spread);
        g.touch(2, 3);
        due(1, g::spread);
        due(1, () -> g.told(9, 9, 0));
        due(3, () -> g.put(1, 2, 2, 2));
        g.touch(1, 2);
        due(2, g::spread);
        due(2, () -> g.told(9, 9, 2));
        due(2, () -> g.out(1, 2));
        due(1, () -> g.out(9, 9));
        due(0, () -> g.out(2, 5));
    }

    private static void outWrong() {
        about("3 out, wrong");
        HangGraph g = new HangGraph();
        g.put(0, 0, 2, 2);
        for (int off : OFF_GRID) {
            thrown(BAD_ARGUMENT, () -> g.out(off, 0));
            thrown(BAD_ARGUMENT, () -> g.out(0, off));
        }
        thrown(NO_FORMULA, () -> g.out(0, 1));
        thrown(NO_FORMULA, () -> g.out(1, 0));
        thrown(NO_FORMULA, () -> g.out(1, 1));
        thrown(NO_FORMULA, () -> g.out(5, 5));
        due(0, () -> g.out(0, 0));
    }

    // Promise 4

    private static void speak() {
        about("4 speak");
        HangGraph g = new HangGraph();
        g.put(0, 0, 1, 1);
        g.put(0, 1, 1, 1);
        due(1, () -> g.speak(0, 0, 4, 6, 5, 8));
        due(1, () -> g.speak(0, 1, 19, 19, 19, 19));
        due(2, () -> g.speak(0, 0, 4, 6, 5, 8));
        due(3, () -> g.speak(0, 0, 10, 0, 10, 19));
        int[][] inside = {{4, 6}, {4, 8}, {5, 6}, {5, 8}, {4, 7}, {10, 0}, {10, 19}};
        for (int[] cell : inside) {
            g.touch(cell[0], cell[1]);
            due(1, g::spread);
            due(1, () -> g.told(0, 0, 0));
            due(0, () -> g.told(0, 1, 0));
        }
        int[][] outside = {{3, 6}, {6, 6}, {4, 5}, {5, 9}, {9, 0}, {11, 19}, {6, 4}, {8, 5}};
        for (int[] cell : outside) {
            g.touch(cell[0], cell[1]);
            due(0, g::spread);
        }
        due(2, () -> g.speak(0, 1, 0, 0, 19, 19));
    }

    private static void speakWrong() {
        about("4 speak, wrong");
        HangGraph g = new HangGraph();
        g.put(0, 0, 2, 2);
        for (int off : OFF_GRID) {
            thrown(BAD_ARGUMENT, () -> g.speak(off, 0, 1, 1, 1, 1));
            thrown(BAD_ARGUMENT, () -> g.speak(0, off, 1, 1, 1, 1));
            thrown(BAD_ARGUMENT, () -> g.speak(0, 0, off, 1, 1, 1));
            thrown(BAD_ARGUMENT, () -> g.speak(0, 0, 1, off, 1, 1));
            thrown(BAD_ARGUMENT, () -> g.speak(0, 0, 1, 1, off, 1));
            thrown(BAD_ARGUMENT, () -> g.speak(0, 0, 1, 1, 1, off));
            thrown(BAD_ARGUMENT, () -> g.speak(0, 0, off, 1, off, 1));
            thrown(BAD_ARGUMENT, () -> g.speak(0, 0, 1, off, 1, off));
        }
        thrown(BAD_ARGUMENT, () -> g.speak(0, 0, 2, 1, 1, 1));
        thrown(BAD_ARGUMENT, () -> g.speak(0, 0, 1, 2, 1, 1));
        thrown(BAD_ARGUMENT, () -> g.speak(0, 0, 19, 0, 0, 19));
        thrown(BAD_ARGUMENT, () -> g.speak(0, 0, 0, 19, 19, 0));
        thrown(NO_FORMULA, () -> g.speak(0, 1, 1, 1, 1, 1));
        thrown(NO_FORMULA, () -> g.speak(1, 1, 1, 1, 1, 1));
        thrown(NO_FORMULA, () -> g.speak(9, 9, 1, 1, 1, 1));
        due(1, () -> g.speak(0, 0, 1, 1, 1, 1));
    }

    private static void speakTooMany() {
        about("4 speak, too many");
        HangGraph g = new HangGraph();
        g.put(0, 0, 1, 1);
        g.put(1, 0, 1, 1);
        for (int n = 1; n <= 20; n++) {
            int count = n;
            due(count, () -> g.speak(0, 0, 9, 9, 9, 9));
        }
        thrown(TOO_MANY, () -> g.speak(0, 0, 9, 9, 9, 9));
        thrown(TOO_MANY, () -> g.speak(0, 0, 3, 3, 3, 3));
        g.touch(3, 3);
        due(0, g::spread);
        due(1, () -> g.speak(1, 0, 9, 9, 9, 9));
        g.out(0, 0);
        g.put(0, 0, 1, 1);
        due(1, () -> g.speak(0, 0, 3, 3, 3, 3));
    }

    // Promise 5

    private static void touch() {
        about("5 touch");
        HangGraph g = new HangGraph();
        g.put(0, 0, 1, 1);
        g.put(19, 19, 1, 1);
        g.put(10, 10, 3, 3);
        g.touch(0, 0);
        g.touch(0, 0);
        g.touch(12, 12);
        g.touch(19, 19);
        due(3, g::spread);
        g.touch(0, 0);
        g.touch(0, 19);
        due(1, g::spread);

        HangGraph later = new HangGraph();
        later.touch(7, 7);
        later.put(6, 6, 2, 2);
        due(1, later::spread);

        HangGraph gone = new HangGraph();
        gone.put(6, 6, 2, 2);
        gone.touch(7, 7);
        gone.out(6, 6);
        gone.put(0, 0, 1, 1);
        gone.speak(0, 0, 7, 7, 7, 7);
        due(1, gone::spread);
    }

    private static void touchWrong() {
        about("5 touch, wrong");
        HangGraph g = new HangGraph();
        g.put(0, 0, 20, 20);
        for (int off : OFF_GRID) {
            thrown(BAD_ARGUMENT, () -> touched(g, off, 0));
            thrown(BAD_ARGUMENT, () -> touched(g, 0, off));
        }
        due(0, g::spread);
    }

    // Promise 6

    private static void spreadHit() {
        about("6 spread, hit");
        HangGraph g = new HangGraph();
        g.put(0, 0, 2, 2);
        g.put(4, 4, 1, 1);
        g.put(6, 6, 1, 3);
        g.put(9, 9, 1, 1);
        g.put(11, 11, 1, 1);
        g.speak(4, 4, 1, 1, 3, 3);
        g.speak(6, 6, 4, 4, 4, 4);
        g.speak(9, 9, 6, 8, 7, 9);
        g.speak(11, 11, 12, 12, 12, 12);
        due(0, g::spread);
        g.touch(0, 1);
        due(4, g::spread);
        due(1, () -> g.told(0, 0, 0));
        due(1, () -> g.told(9, 9, 0));
        due(0, () -> g.told(11, 11, 0));
        g.touch(3, 3);
        due(3, g::spread);
        due(0, () -> g.told(0, 0, 0));
        g.touch(9, 9);
        g.touch(12, 12);
        due(2, g::spread);
        g.touch(15, 15);
        due(0, g::spread);
    }

    private static void spreadClearsDirty() {
        about("6 spread, no cell dirty afterwards");
        HangGraph g = new HangGraph();
        g.put(3, 3, 1, 1);
        g.touch(3, 3);
        g.touch(19, 0);
        due(1, g::spread);
        due(0, g::spread);
        g.put(19, 0, 1, 1);
        due(0, g::spread);
        due(0, () -> g.told(3, 3, 0));
        due(0, () -> g.told(3, 3, 2));
    }

    /** Two groups that hang on themselves, one formula between them, one below and one above. */
    private static void spreadRound() {
        about("6 spread, round");
        HangGraph g = new HangGraph();
        for (int c = 0; c < 8; c++) {
            g.put(0, c, 1, 1);
        }
        int[][] hangs = {{1, 0}, {1, 2}, {2, 1}, {3, 2}, {4, 3}, {4, 5}, {5, 6}, {6, 4}, {7, 6}};
        for (int[] pair : hangs) {
            g.speak(0, pair[0], 0, pair[1], 0, pair[1]);
        }
        g.touch(0, 0);
        due(8, g::spread);
        tellRow(g, 1, new int[] {0, 1, 1, 0, 1, 1, 1, 0});
        tellRow(g, 2, new int[] {1, 0, 0, 1, 0, 0, 0, 1});
        g.touch(0, 5);
        due(4, g::spread);
        tellRow(g, 0, new int[] {0, 0, 0, 0, 1, 1, 1, 1});
        tellRow(g, 1, new int[] {0, 0, 0, 0, 1, 1, 1, 0});
        tellRow(g, 2, new int[] {0, 0, 0, 0, 0, 0, 0, 1});

        HangGraph itself = new HangGraph();
        itself.put(5, 5, 2, 2);
        itself.put(8, 8, 1, 1);
        itself.speak(5, 5, 6, 6, 9, 9);
        itself.touch(8, 8);
        due(2, itself::spread);
        due(1, () -> itself.told(5, 5, 1));
        due(0, () -> itself.told(5, 5, 2));
        due(0, () -> itself.told(8, 8, 1));
        due(1, () -> itself.told(8, 8, 2));
    }

    private static void spreadRank() {
        about("6 spread, rank");
        HangGraph g = new HangGraph();
        for (int c = 0; c < 6; c++) {
            g.put(0, c, 1, 1);
        }
        // 3 hangs on 2 by one step and by two, on the round 5, and on 4 that is not hit
        int[][] hangs = {{1, 0}, {2, 1}, {3, 0}, {3, 2}, {3, 4}, {3, 5}, {5, 5}, {5, 2}};
        for (int[] pair : hangs) {
            g.speak(0, pair[0], 0, pair[1], 0, pair[1]);
        }
        g.touch(0, 0);
        due(5, g::spread);
        tellRow(g, 0, new int[] {1, 1, 1, 1, 0, 1});
        tellRow(g, 1, new int[] {0, 0, 0, 0, 0, 1});
        tellRow(g, 2, new int[] {1, 2, 3, 4, 0, 0});
        g.touch(0, 2);
        due(3, g::spread);
        tellRow(g, 2, new int[] {0, 0, 1, 2, 0, 0});
        g.touch(0, 4);
        due(2, g::spread);
        tellRow(g, 2, new int[] {0, 0, 0, 2, 1, 0});
    }

    private static void spreadLongChain() {
        about("6 spread, long chain");
        for (int turn = 0; turn < 2; turn++) {
            boolean up = turn == 0;
            HangGraph g = new HangGraph();
            for (int i = 0; i < 240; i++) {
                int below = up ? i - 1 : i + 1;
                g.put(i / 20, i % 20, 1, 1);
                if (below >= 0 && below < 240) {
                    g.speak(i / 20, i % 20, below / 20, below % 20, below / 20, below % 20);
                }
            }
            int start = up ? 0 : 239;
            g.touch(start / 20, start % 20);
            due(240, g::spread);
            for (int i = 0; i < 240; i += 20) {
                int cell = i;
                due(up ? cell + 1 : 240 - cell, () -> g.told(cell / 20, cell % 20, 2));
            }
            g.speak(start / 20, start % 20, 0, 0, 11, 19);
            g.touch(start / 20, start % 20);
            due(240, g::spread);
            due(1, () -> g.told(0, 0, 1));
            due(1, () -> g.told(11, 19, 1));
        }
    }

    private static void spreadAllRound() {
        about("6 spread, full grid");
        HangGraph g = new HangGraph();
        for (int i = 0; i < 400; i++) {
            g.put(i / 20, i % 20, 1, 1);
        }
        for (int i = 0; i < 100; i++) {
            g.speak(i / 20, i % 20, 0, 0, 19, 19);
        }
        g.touch(19, 19);
        due(101, g::spread);
        due(1, () -> g.told(0, 0, 1));
        due(1, () -> g.told(4, 19, 1));
        due(0, () -> g.told(5, 0, 0));
        due(1, () -> g.told(19, 19, 2));
        due(0, () -> g.told(19, 19, 1));
    }

    // Promise 7

    private static void told() {
        about("7 told");
        HangGraph g = new HangGraph();
        g.put(0, 0, 2, 2);
        for (int what = 0; what <= 2; what++) {
            int asked = what;
            due(0, () -> g.told(0, 0, asked));
        }
        g.touch(1, 1);
        for (int what = 0; what <= 2; what++) {
            int asked = what;
            due(0, () -> g.told(0, 0, asked));
        }
        g.spread();
        due(1, () -> g.told(0, 0, 0));
        due(0, () -> g.told(0, 0, 1));
        due(1, () -> g.told(0, 0, 2));
    }

    private static void toldStays() {
        about("7 told, till the next spread");
        HangGraph g = new HangGraph();
        for (int c = 0; c < 4; c++) {
            g.put(0, c, 1, 1);
        }
        int[][] hangs = {{1, 0}, {2, 1}, {2, 3}, {3, 2}};
        for (int[] pair : hangs) {
            g.speak(0, pair[0], 0, pair[1], 0, pair[1]);
        }
        g.touch(0, 0);
        due(4, g::spread);
        g.touch(19, 19);
        g.speak(0, 0, 0, 0, 19, 19);
        g.out(0, 2);
        g.put(5, 5, 1, 1);
        due(1, () -> g.told(0, 1, 0));
        due(2, () -> g.told(0, 1, 2));
        due(0, () -> g.told(0, 0, 1));
        due(1, () -> g.told(0, 3, 1));
        due(0, () -> g.told(5, 5, 0));
        thrown(NO_FORMULA, () -> g.told(0, 2, 0));
        g.put(0, 2, 1, 1);
        g.out(0, 1);
        g.put(0, 1, 1, 1);
        for (int what = 0; what <= 2; what++) {
            int asked = what;
            due(0, () -> g.told(0, 2, asked));
            due(0, () -> g.told(0, 1, asked));
        }
        due(1, () -> g.told(0, 0, 0));
        due(1, g::spread);
        due(1, () -> g.told(0, 0, 1));
        due(0, () -> g.told(0, 3, 0));
        due(0, () -> g.told(0, 3, 1));
    }

    private static void toldWrong() {
        about("7 told, wrong");
        HangGraph g = new HangGraph();
        g.put(0, 0, 2, 2);
        for (int off : OFF_GRID) {
            thrown(BAD_ARGUMENT, () -> g.told(off, 0, 0));
            thrown(BAD_ARGUMENT, () -> g.told(0, off, 0));
        }
        int[] whats = {-1, 3, Integer.MIN_VALUE, Integer.MAX_VALUE};
        for (int what : whats) {
            thrown(BAD_ARGUMENT, () -> g.told(0, 0, what));
        }
        thrown(NO_FORMULA, () -> g.told(0, 1, 0));
        thrown(NO_FORMULA, () -> g.told(1, 0, 1));
        thrown(NO_FORMULA, () -> g.told(8, 8, 2));
    }

    // Promise 8

    private static void owner() {
        about("8 owner");
        HangGraph g = new HangGraph();
        g.put(3, 4, 2, 5);
        for (int cell = 0; cell < 400; cell++) {
            int r = cell / 20;
            int c = cell % 20;
            boolean inside = r >= 3 && r <= 4 && c >= 4 && c <= 8;
            due(inside ? 64 : -1, () -> g.owner(r, c));
        }
        g.put(0, 0, 1, 1);
        due(0, () -> g.owner(0, 0));
        g.put(19, 19, 1, 1);
        due(399, () -> g.owner(19, 19));
    }

    private static void ownerWrong() {
        about("8 owner, wrong");
        HangGraph g = new HangGraph();
        for (int off : OFF_GRID) {
            thrown(BAD_ARGUMENT, () -> g.owner(off, 0));
            thrown(BAD_ARGUMENT, () -> g.owner(0, off));
        }
    }

    // Terms

    private static void orderOfExceptions() {
        about("order of exceptions");
        HangGraph g = new HangGraph();
        g.put(0, 0, 2, 2);
        thrown(BAD_ARGUMENT, () -> g.put(0, 0, 0, 1));
        thrown(BAD_ARGUMENT, () -> g.put(0, 0, 21, 1));
        thrown(BAD_ARGUMENT, () -> g.put(0, 0, 1, Integer.MAX_VALUE));
        thrown(BAD_ARGUMENT, () -> g.speak(5, 5, 2, 0, 1, 0));
        thrown(BAD_ARGUMENT, () -> g.speak(5, 5, 0, 0, 0, 20));
        thrown(BAD_ARGUMENT, () -> g.told(5, 5, 3));
        for (int n = 0; n < 20; n++) {
            g.speak(0, 0, 9, 9, 9, 9);
        }
        thrown(BAD_ARGUMENT, () -> g.speak(0, 0, 0, 1, 0, 0));
        thrown(NO_FORMULA, () -> g.speak(1, 1, 0, 0, 0, 0));
        thrown(TOO_MANY, () -> g.speak(0, 0, 0, 0, 0, 0));
    }

    private static void throwingChangesNothing() {
        about("a call that throws changes nothing");
        HangGraph g = new HangGraph();
        g.put(0, 0, 2, 2);
        g.put(9, 9, 1, 1);
        for (int n = 0; n < 20; n++) {
            g.speak(9, 9, 1, 1, 1, 1);
        }
        g.touch(1, 0);
        due(2, g::spread);
        g.touch(0, 0);
        thrown(OVERLAP, () -> g.put(0, 0, 5, 5));
        thrown(OVERLAP, () -> g.put(8, 8, 2, 2));
        thrown(BAD_ARGUMENT, () -> g.put(18, 18, 3, 1));
        thrown(NO_FORMULA, () -> g.out(1, 1));
        thrown(BAD_ARGUMENT, () -> g.out(20, 0));
        thrown(TOO_MANY, () -> g.speak(9, 9, 9, 9, 9, 9));
        thrown(NO_FORMULA, () -> g.speak(1, 1, 9, 9, 9, 9));
        thrown(BAD_ARGUMENT, () -> g.speak(0, 0, 9, 9, 9, 20));
        thrown(BAD_ARGUMENT, () -> touched(g, 9, 20));
        thrown(BAD_ARGUMENT, () -> g.told(0, 0, 3));
        due(1, () -> g.told(0, 0, 2));
        due(2, () -> g.told(9, 9, 2));
        due(-1, () -> g.owner(8, 8));
        due(-1, () -> g.owner(18, 18));
        due(0, () -> g.owner(1, 1));
        due(180 + 9, () -> g.owner(9, 9));
        due(2, g::spread);
        due(0, () -> g.told(9, 9, 1));
        due(2, () -> g.told(9, 9, 2));
        due(1, () -> g.speak(0, 0, 9, 9, 9, 9));
        due(3, () -> g.put(18, 18, 2, 2));
    }

    private static void objectsAreApart() {
        about("two objects");
        HangGraph one = new HangGraph();
        HangGraph two = new HangGraph();
        one.put(0, 0, 1, 1);
        one.touch(0, 0);
        due(-1, () -> two.owner(0, 0));
        due(1, () -> two.put(0, 0, 1, 1));
        due(0, two::spread);
        due(1, one::spread);
        due(0, () -> two.told(0, 0, 0));
    }

    private static void tellRow(HangGraph g, int what, int[] want) {
        for (int c = 0; c < want.length; c++) {
            int column = c;
            due(want[column], () -> g.told(0, column, what));
        }
    }
}
