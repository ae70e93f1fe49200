/** Objects that several tests begin with. */
final class Given {
    private Given() {
    }

    static int[] row(int... entries) {
        return entries;
    }

    /** A built matrix of these rows; nothing is pending, x and y are 0. */
    static RowSparse matrix(int cap, int[]... rows) {
        RowSparse m = new RowSparse(rows.length, rows[0].length, cap);
        for (int i = 0; i < rows.length; i++) {
            for (int j = 0; j < rows[i].length; j++) {
                if (rows[i][j] != 0) {
                    m.add(i, j, rows[i][j]);
                }
            }
        }
        m.build();
        return m;
    }

    static void x(RowSparse m, int... coordinates) {
        for (int j = 0; j < coordinates.length; j++) {
            m.setX(j, coordinates[j]);
        }
    }

    /**
     * Row 0 up to column 39 and column 0 down to row 24 are 1, of 60 rows and columns: 64 places,
     * whose square has 25 * 40. So an object gets 1000 places in fewer than its 512 calls.
     */
    static RowSparse hook(int cap) {
        RowSparse m = new RowSparse(60, 60, cap);
        for (int i = 1; i < 25; i++) {
            m.add(i, 0, 1);
        }
        for (int j = 0; j < 40; j++) {
            m.add(0, j, 1);
        }
        m.build();
        return m;
    }
}
