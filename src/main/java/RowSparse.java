import java.util.Arrays;

/**
 * A sparse matrix of ints (sums and products go round), kept row by row.
 * Its arrays are made once, in the constructor; no later call makes an object.
 */
public final class RowSparse {
    public static final int NONE = -1;
    public static final int NOTSQUARE = -2;

    private static final int MOST_LINES = 60;
    private static final int MOST_PLACES = 1000;

    private final int cap;
    private int rows;
    private int cols;

    // A call that changes A fills the spare and then swaps the two,
    // so a call that is refused half-way leaves A as it was.
    private Support support;
    private Support spare;

    private final int[] pendingRows;
    private final int[] pendingCols;
    private final int[] pendingValues;
    private int pending;

    // These are as long as the longer side, so that they fit after a transpose too.
    private final int[] vector;
    private final int[] product;
    private final int[] line;

    public RowSparse(int rows, int cols, int cap) {
        this.rows = nearest(rows, MOST_LINES);
        this.cols = nearest(cols, MOST_LINES);
        this.cap = nearest(cap, MOST_PLACES);
        int side = Math.max(this.rows, this.cols);
        support = new Support(side, this.cap);
        spare = new Support(side, this.cap);
        pendingRows = new int[this.cap];
        pendingCols = new int[this.cap];
        pendingValues = new int[this.cap];
        pending = 0;
        vector = new int[side];
        product = new int[side];
        line = new int[side];
    }

    public boolean add(int i, int j, int v) {
        if (!hasPlace(i, j) || pending >= cap) {
            return false;
        }
        pendingRows[pending] = i;
        pendingCols[pending] = j;
        pendingValues[pending] = v;
        pending++;
        return true;
    }

    public int build() {
        for (int i = 0; i < rows; i++) {
            Arrays.fill(line, 0);
            support.addRowTo(line, i, 1);
            addPendingTo(line, i);
            if (!spare.putRow(i, line)) {
                return NONE;
            }
        }
        swapSupports();
        pending = 0;
        return support.placesAhead(rows);
    }

    public int nnz() {
        return support.placesAhead(rows);
    }

    public int at(int i, int j) {
        return hasPlace(i, j) ? support.entry(i, j) : 0;
    }

    public int rowStart(int i) {
        return i >= 0 && i <= rows ? support.placesAhead(i) : NONE;
    }

    public int colAt(int k) {
        return k >= 0 && k < support.placesAhead(rows) ? support.column(k) : NONE;
    }

    public boolean setX(int j, int v) {
        if (!isWithin(j, cols)) {
            return false;
        }
        vector[j] = v;
        return true;
    }

    public boolean multiplyVector() {
        for (int i = 0; i < rows; i++) {
            product[i] = support.rowTimes(i, vector);
        }
        return true;
    }

    public int y(int i) {
        return isWithin(i, rows) ? product[i] : 0;
    }

    public boolean transpose() {
        if (pending > 0) {
            return false;
        }
        for (int j = 0; j < cols; j++) {
            Arrays.fill(line, 0);
            for (int i = 0; i < rows; i++) {
                line[i] = support.entry(i, j);
            }
            // Always fits: there are as many places as before.
            spare.putRow(j, line);
        }
        swapSupports();
        int oldRows = rows;
        rows = cols;
        cols = oldRows;
        Arrays.fill(vector, 0);
        Arrays.fill(product, 0);
        return true;
    }

    public int square() {
        if (rows != cols) {
            return NOTSQUARE;
        }
        for (int i = 0; i < rows; i++) {
            Arrays.fill(line, 0);
            support.addSquaredRowTo(line, i);
            if (!spare.putRow(i, line)) {
                return NONE;
            }
        }
        swapSupports();
        return support.placesAhead(rows);
    }

    public int count(int what) {
        switch (what) {
            case 0:
                return rows;
            case 1:
                return cols;
            case 2:
                return cap;
            case 3:
                return pending;
            default:
                return NONE;
        }
    }

    private static int nearest(int wanted, int most) {
        return Math.max(1, Math.min(most, wanted));
    }

    private static boolean isWithin(int index, int length) {
        return index >= 0 && index < length;
    }

    private boolean hasPlace(int i, int j) {
        return isWithin(i, rows) && isWithin(j, cols);
    }

    private void addPendingTo(int[] sums, int row) {
        for (int p = 0; p < pending; p++) {
            if (pendingRows[p] == row) {
                sums[pendingCols[p]] += pendingValues[p];
            }
        }
    }

    private void swapSupports() {
        Support old = support;
        support = spare;
        spare = old;
    }

    /**
     * The places whose entry isn't 0, row by row, in a row by columns.
     * Those of row i are numbered from starts[i] up to, but without, starts[i + 1].
     * The callers hand in only rows, columns and numbers that exist.
     */
    private static final class Support {
        private final int[] starts;
        private final int[] columns;
        private final int[] values;

        Support(int side, int room) {
            starts = new int[side + 1];
            columns = new int[room];
            values = new int[room];
        }

        int placesAhead(int row) {
            return starts[row];
        }

        int column(int number) {
            return columns[number];
        }

        int entry(int row, int column) {
            int end = starts[row + 1];
            for (int k = starts[row]; k < end; k++) {
                if (columns[k] == column) {
                    return values[k];
                }
            }
            return 0;
        }

        int rowTimes(int row, int[] factors) {
            int sum = 0;
            int end = starts[row + 1];
            for (int k = starts[row]; k < end; k++) {
                sum += values[k] * factors[columns[k]];
            }
            return sum;
        }

        void addRowTo(int[] sums, int row, int factor) {
            int end = starts[row + 1];
            for (int k = starts[row]; k < end; k++) {
                sums[columns[k]] += factor * values[k];
            }
        }

        /** Only for a square matrix, whose columns are numbers of rows too. */
        void addSquaredRowTo(int[] sums, int row) {
            int end = starts[row + 1];
            for (int k = starts[row]; k < end; k++) {
                addRowTo(sums, columns[k], values[k]);
            }
        }

        /** Rows are put in their order, from row 0 on; false if there is no room. */
        boolean putRow(int row, int[] entries) {
            int end = starts[row];
            for (int j = 0; j < entries.length; j++) {
                if (entries[j] != 0) {
                    if (end >= columns.length) {
                        return false;
                    }
                    columns[end] = j;
                    values[end] = entries[j];
                    end++;
                }
            }
            starts[row + 1] = end;
            return true;
        }
    }
}
