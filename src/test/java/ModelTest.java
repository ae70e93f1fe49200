import java.util.ArrayList;
import java.util.List;
import java.util.Random;

/** Long runs of calls, the same ones each time, beside a matrix that is kept whole. */
public final class ModelTest {
    private static final int RUNS = 3000;
    private static final int CALLS = 512;
    private static final int ENOUGH_WRONG = 20;
    private static final int[] VALUES = {0, 1, -1, 2, -2, 65536, -65536, 3, Integer.MIN_VALUE, Integer.MAX_VALUE};

    private final Due due;
    private final Random random;
    private final RowSparse sparse;
    private final int run;
    private final int cap;
    private int[][] a;
    private int[] x;
    private int[] y;
    private final List<int[]> pending = new ArrayList<>();

    private ModelTest(Due due, int run) {
        this.due = due;
        this.run = run;
        random = new Random(run);
        int most = random.nextInt(4) == 0 ? 60 : 6;
        int rows = 1 + random.nextInt(most);
        int cols = random.nextBoolean() ? rows : 1 + random.nextInt(most);
        cap = 1 + random.nextInt(random.nextInt(4) == 0 ? 1000 : 2 * most);
        sparse = new RowSparse(rows, cols, cap);
        a = new int[rows][cols];
        x = new int[cols];
        y = new int[rows];
    }

    public static void main(String[] args) {
        Due due = new Due();
        for (int run = 0; run < RUNS && due.wrong() < ENOUGH_WRONG; run++) {
            ModelTest test = new ModelTest(due, run);
            for (int call = 0; call < CALLS; call++) {
                test.step();
            }
        }
        due.end();
    }

    private void same(String call, int got, int want) {
        due.same("run " + run + ": " + call, got, want);
    }

    private void step() {
        int pick = random.nextInt(40);
        if (pick < 12) {
            add(near(a.length), near(x.length), value());
        } else if (pick < 14) {
            same("build", sparse.build(), build());
        } else if (pick == 14) {
            same("transpose", sparse.transpose() ? 1 : 0, transpose() ? 1 : 0);
        } else if (pick == 15) {
            same("square", sparse.square(), square());
        } else if (pick == 16) {
            same("multiplyVector", sparse.multiplyVector() ? 1 : 0, 1);
            multiply();
        } else if (pick < 20) {
            setX(near(x.length), value());
        } else {
            look(pick);
        }
    }

    private void look(int pick) {
        int i = near(a.length);
        int j = near(x.length);
        if (pick < 24) {
            int want = within(i, a.length) && within(j, x.length) ? a[i][j] : 0;
            same("at(" + i + ", " + j + ")", sparse.at(i, j), want);
        } else if (pick < 27) {
            same("nnz", sparse.nnz(), places(a, a.length));
        } else if (pick < 30) {
            int want = i >= 0 && i <= a.length ? places(a, i) : RowSparse.NONE;
            same("rowStart(" + i + ")", sparse.rowStart(i), want);
        } else if (pick < 34) {
            int k = near(places(a, a.length));
            same("colAt(" + k + ")", sparse.colAt(k), columnOf(k));
        } else if (pick < 38) {
            same("y(" + i + ")", sparse.y(i), within(i, y.length) ? y[i] : 0);
        } else {
            int what = random.nextInt(6) - 1;
            int[] sizes = {a.length, x.length, cap, pending.size()};
            same("count(" + what + ")", sparse.count(what), within(what, 4) ? sizes[what] : RowSparse.NONE);
        }
    }

    /** Mostly an index that exists, now and then one just outside or far off. */
    private int near(int length) {
        int pick = random.nextInt(60);
        if (pick == 0) {
            return Integer.MIN_VALUE;
        }
        if (pick == 1) {
            return Integer.MAX_VALUE;
        }
        return pick < 10 ? random.nextInt(length + 3) - 1 : random.nextInt(Math.max(1, length));
    }

    private int value() {
        return random.nextInt(3) == 0 ? random.nextInt() : VALUES[random.nextInt(VALUES.length)];
    }

    private static boolean within(int index, int length) {
        return index >= 0 && index < length;
    }

    private void add(int i, int j, int v) {
        boolean fits = within(i, a.length) && within(j, x.length) && pending.size() < cap;
        if (fits) {
            pending.add(new int[] {i, j, v});
        }
        same("add(" + i + ", " + j + ", " + v + ")", sparse.add(i, j, v) ? 1 : 0, fits ? 1 : 0);
    }

    private void setX(int j, int v) {
        boolean fits = within(j, x.length);
        if (fits) {
            x[j] = v;
        }
        same("setX(" + j + ", " + v + ")", sparse.setX(j, v) ? 1 : 0, fits ? 1 : 0);
    }

    private int build() {
        int[][] sum = new int[a.length][];
        for (int i = 0; i < a.length; i++) {
            sum[i] = a[i].clone();
        }
        for (int[] triplet : pending) {
            sum[triplet[0]][triplet[1]] += triplet[2];
        }
        int answer = take(sum);
        if (answer != RowSparse.NONE) {
            pending.clear();
        }
        return answer;
    }

    private int square() {
        if (a.length != x.length) {
            return RowSparse.NOTSQUARE;
        }
        int[][] sum = new int[a.length][a.length];
        for (int i = 0; i < a.length; i++) {
            for (int j = 0; j < a.length; j++) {
                for (int k = 0; k < a.length; k++) {
                    sum[i][j] += a[i][k] * a[k][j];
                }
            }
        }
        return take(sum);
    }

    private int take(int[][] wanted) {
        int places = places(wanted, wanted.length);
        if (places > cap) {
            return RowSparse.NONE;
        }
        a = wanted;
        return places;
    }

    private boolean transpose() {
        if (!pending.isEmpty()) {
            return false;
        }
        int[][] turned = new int[x.length][a.length];
        for (int i = 0; i < a.length; i++) {
            for (int j = 0; j < x.length; j++) {
                turned[j][i] = a[i][j];
            }
        }
        x = new int[a.length];
        y = new int[turned.length];
        a = turned;
        return true;
    }

    private void multiply() {
        for (int i = 0; i < a.length; i++) {
            y[i] = 0;
            for (int j = 0; j < x.length; j++) {
                y[i] += a[i][j] * x[j];
            }
        }
    }

    private static int places(int[][] matrix, int rows) {
        int places = 0;
        for (int i = 0; i < rows; i++) {
            for (int entry : matrix[i]) {
                places += entry != 0 ? 1 : 0;
            }
        }
        return places;
    }

    private int columnOf(int number) {
        int seen = 0;
        for (int[] row : a) {
            for (int j = 0; j < row.length; j++) {
                if (row[j] != 0) {
                    if (seen == number) {
                        return j;
                    }
                    seen++;
                }
            }
        }
        return RowSparse.NONE;
    }
}
