import java.util.ArrayList;
import java.util.List;
import java.util.NoSuchElementException;
import java.util.Random;

/**
 * Long runs of calls, the same at every start, on the class and on a plain model that follows the
 * words of the document without any care for speed.
 */
public final class ModelTests {
    private static final int RUNS = 3000;
    private static final int CALLS = 512;
    private static final int[] ODD = {-1, 20, 21, -20, 1 << 20, Integer.MIN_VALUE, Integer.MAX_VALUE};

    public static void main(String[] args) {
        int seen = 0;
        for (int run = 0; run < RUNS; run++) {
            seen += wrongIn(run);
            if (seen > 10) {
                break;
            }
        }
        System.out.println(seen == 0 ? "class and model agree" : "class and model differ");
        if (seen != 0) {
            System.exit(1);
        }
    }

    private static int wrongIn(int run) {
        Random random = new Random(run);
        int side = 2 + random.nextInt(19);
        int largest = 1 + random.nextInt(4);
        int oddOneIn = 20 + random.nextInt(400);
        int[] weights = new int[7];
        for (int kind = 0; kind < weights.length; kind++) {
            weights[kind] = 1 + random.nextInt(kind == 1 ? 3 : 12);
        }
        HangGraph graph = new HangGraph();
        Model model = new Model();
        for (int i = 0; i < CALLS; i++) {
            int kind = pick(random, weights);
            int[] a = arguments(random, kind, side, largest, model);
            if (random.nextInt(oddOneIn) == 0) {
                a[random.nextInt(a.length)] = ODD[random.nextInt(ODD.length)];
            }
            String got = call(graph, kind, a);
            String want = model.call(kind, a);
            if (!got.equals(want)) {
                System.out.println("run " + run + ", call " + i + ", kind " + kind + " "
                        + java.util.Arrays.toString(a) + " answered " + got + ", due is " + want);
                return 1;
            }
        }
        return 0;
    }

    private static int pick(Random random, int[] weights) {
        int sum = 0;
        for (int weight : weights) {
            sum += weight;
        }
        int left = random.nextInt(sum);
        for (int kind = 0; kind < weights.length; kind++) {
            left -= weights[kind];
            if (left < 0) {
                return kind;
            }
        }
        return 0;
    }

    private static int[] arguments(Random random, int kind, int side, int largest, Model model) {
        int[] a = new int[6];
        for (int i = 0; i < a.length; i++) {
            a[i] = random.nextInt(side);
        }
        boolean named = kind == 1 || kind == 2 || kind == 5;
        if (named && !model.formulas.isEmpty() && random.nextInt(12) != 0) {
            Form f = model.formulas.get(random.nextInt(model.formulas.size()));
            a[0] = f.r;
            a[1] = f.c;
        }
        if (kind == 0) {
            a[2] = 1 + random.nextInt(largest);
            a[3] = 1 + random.nextInt(largest);
        }
        if (kind == 2 && random.nextInt(20) != 0) {
            a[4] = Math.min(19, a[2] + random.nextInt(largest));
            a[5] = Math.min(19, a[3] + random.nextInt(largest));
        }
        if (kind == 5) {
            a[2] = random.nextInt(20) == 0 ? 3 : random.nextInt(3);
        }
        return a;
    }

    private static String call(HangGraph g, int kind, int[] a) {
        try {
            switch (kind) {
                case 0: return "" + g.put(a[0], a[1], a[2], a[3]);
                case 1: return "" + g.out(a[0], a[1]);
                case 2: return "" + g.speak(a[0], a[1], a[2], a[3], a[4], a[5]);
                case 3: g.touch(a[0], a[1]); return "void";
                case 4: return "" + g.spread();
                case 5: return "" + g.told(a[0], a[1], a[2]);
                default: return "" + g.owner(a[0], a[1]);
            }
        } catch (RuntimeException e) {
            return e.getClass().getName();
        }
    }

    private static final class Form {
        int r;
        int c;
        int h;
        int w;
        final List<int[]> rectangles = new ArrayList<>();
        boolean hit;
        boolean round;
        int rank;

        boolean holds(int row, int column) {
            return row >= r && row < r + h && column >= c && column < c + w;
        }

        boolean speaksOf(int row, int column) {
            for (int[] x : rectangles) {
                if (row >= x[0] && column >= x[1] && row <= x[2] && column <= x[3]) {
                    return true;
                }
            }
            return false;
        }

        boolean hangsOn(Form other) {
            for (int row = other.r; row < other.r + other.h; row++) {
                for (int column = other.c; column < other.c + other.w; column++) {
                    if (speaksOf(row, column)) {
                        return true;
                    }
                }
            }
            return false;
        }
    }

    private static final class Model {
        final List<Form> formulas = new ArrayList<>();
        final boolean[][] dirty = new boolean[20][20];

        String call(int kind, int[] a) {
            try {
                switch (kind) {
                    case 0: return "" + put(a[0], a[1], a[2], a[3]);
                    case 1: return "" + out(a[0], a[1]);
                    case 2: return "" + speak(a);
                    case 3: cell(a[0], a[1]); dirty[a[0]][a[1]] = true; return "void";
                    case 4: return "" + spread();
                    case 5: return "" + told(a[0], a[1], a[2]);
                    default: return "" + owner(a[0], a[1]);
                }
            } catch (RuntimeException e) {
                return e.getClass().getName();
            }
        }

        private void cell(int r, int c) {
            if (r < 0 || r > 19 || c < 0 || c > 19) {
                throw new IllegalArgumentException();
            }
        }

        private Form named(int r, int c) {
            for (Form f : formulas) {
                if (f.r == r && f.c == c) {
                    return f;
                }
            }
            throw new NoSuchElementException();
        }

        private int put(int r, int c, int h, int w) {
            cell(r, c);
            if (h < 1 || w < 1 || (long) r + h > 20 || (long) c + w > 20) {
                throw new IllegalArgumentException();
            }
            Form made = new Form();
            made.r = r;
            made.c = c;
            made.h = h;
            made.w = w;
            for (Form f : formulas) {
                boolean apart = f.r + f.h <= r || r + h <= f.r || f.c + f.w <= c || c + w <= f.c;
                if (!apart) {
                    throw new IllegalStateException();
                }
            }
            formulas.add(made);
            return formulas.size();
        }

        private int out(int r, int c) {
            cell(r, c);
            formulas.remove(named(r, c));
            return formulas.size();
        }

        private int speak(int[] a) {
            cell(a[0], a[1]);
            cell(a[2], a[3]);
            cell(a[4], a[5]);
            if (a[2] > a[4] || a[3] > a[5]) {
                throw new IllegalArgumentException();
            }
            Form f = named(a[0], a[1]);
            if (f.rectangles.size() == 20) {
                throw new IndexOutOfBoundsException();
            }
            f.rectangles.add(new int[] {a[2], a[3], a[4], a[5]});
            return f.rectangles.size();
        }

        private int told(int r, int c, int what) {
            cell(r, c);
            if (what < 0 || what > 2) {
                throw new IllegalArgumentException();
            }
            Form f = named(r, c);
            return what == 0 ? (f.hit ? 1 : 0) : what == 1 ? (f.round ? 1 : 0) : f.rank;
        }

        private int owner(int r, int c) {
            cell(r, c);
            for (Form f : formulas) {
                if (f.holds(r, c)) {
                    return 20 * f.r + f.c;
                }
            }
            return -1;
        }

        private int spread() {
            int n = formulas.size();
            boolean[][] reaches = new boolean[n][n];
            for (int i = 0; i < n; i++) {
                for (int j = 0; j < n; j++) {
                    reaches[i][j] = formulas.get(i).hangsOn(formulas.get(j));
                }
            }
            boolean[][] hangs = new boolean[n][];
            for (int i = 0; i < n; i++) {
                hangs[i] = reaches[i].clone();
            }
            for (int k = 0; k < n; k++) {
                for (int i = 0; i < n; i++) {
                    for (int j = 0; reaches[i][k] && j < n; j++) {
                        reaches[i][j] |= reaches[k][j];
                    }
                }
            }
            boolean[] struck = new boolean[n];
            for (int i = 0; i < n; i++) {
                struck[i] = isStruck(formulas.get(i));
            }
            int hits = 0;
            for (int i = 0; i < n; i++) {
                Form f = formulas.get(i);
                f.hit = struck[i];
                for (int j = 0; j < n; j++) {
                    f.hit |= reaches[i][j] && struck[j];
                }
                f.round = f.hit && reaches[i][i];
                f.rank = f.hit && !f.round ? 1 : 0;
                hits += f.hit ? 1 : 0;
            }
            raiseRanks(hangs);
            for (boolean[] row : dirty) {
                java.util.Arrays.fill(row, false);
            }
            return hits;
        }

        private boolean isStruck(Form f) {
            for (int row = 0; row < 20; row++) {
                for (int column = 0; column < 20; column++) {
                    if (dirty[row][column] && (f.holds(row, column) || f.speaksOf(row, column))) {
                        return true;
                    }
                }
            }
            return false;
        }

        private void raiseRanks(boolean[][] hangs) {
            boolean raised = true;
            while (raised) {
                raised = false;
                for (int i = 0; i < hangs.length; i++) {
                    Form f = formulas.get(i);
                    for (int j = 0; f.rank > 0 && j < hangs.length; j++) {
                        if (hangs[i][j] && formulas.get(j).rank >= f.rank) {
                            f.rank = formulas.get(j).rank + 1;
                            raised = true;
                        }
                    }
                }
            }
        }
    }
}
