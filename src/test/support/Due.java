/** Compares answers with those that are due, prints each that differs, and ends the test. */
final class Due {
    private int wrong = 0;

    void same(String what, long got, long want) {
        if (got != want) {
            wrong++;
            System.out.println(what + " answered " + got + ", due is " + want);
        }
    }

    void yes(String what, boolean got) {
        same(what, got ? 1 : 0, 1);
    }

    void no(String what, boolean got) {
        same(what, got ? 1 : 0, 0);
    }

    void sizes(String what, RowSparse m, int rows, int cols, int cap) {
        same(what + ": ROWS", m.count(0), rows);
        same(what + ": COLS", m.count(1), cols);
        same(what + ": CAP", m.count(2), cap);
    }

    /** A is made of these rows, and the calls about its support agree with them. */
    void matrix(String what, RowSparse m, int[]... rows) {
        int places = 0;
        for (int i = 0; i < rows.length; i++) {
            same(what + ": rowStart(" + i + ")", m.rowStart(i), places);
            for (int j = 0; j < rows[i].length; j++) {
                same(what + ": at(" + i + ", " + j + ")", m.at(i, j), rows[i][j]);
                if (rows[i][j] != 0) {
                    same(what + ": colAt(" + places + ")", m.colAt(places), j);
                    places++;
                }
            }
        }
        same(what + ": rowStart(" + rows.length + ")", m.rowStart(rows.length), places);
        same(what + ": colAt(" + places + ")", m.colAt(places), RowSparse.NONE);
        same(what + ": nnz()", m.nnz(), places);
        same(what + ": ROWS", m.count(0), rows.length);
        same(what + ": COLS", m.count(1), rows[0].length);
    }

    void product(String what, RowSparse m, int... coordinates) {
        for (int i = 0; i < coordinates.length; i++) {
            same(what + ": y(" + i + ")", m.y(i), coordinates[i]);
        }
    }

    int wrong() {
        return wrong;
    }

    void end() {
        System.out.println(wrong == 0 ? "all answers are as due" : wrong + " answers are not as due");
        if (wrong != 0) {
            System.exit(1);
        }
    }
}
