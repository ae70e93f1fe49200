/** The boundary cases of the document's terms: a support that is empty or full, and what goes round. */
public final class TermsTest {
    private static final int MIN = Integer.MIN_VALUE;
    private static final int MAX = Integer.MAX_VALUE;
    private static final int NONE = RowSparse.NONE;
    private static final int HALF = 65536;
    private static final Due DUE = new Due();

    public static void main(String[] args) {
        emptyFromTheStart();
        emptyByBuild();
        emptyBySquare();
        fullByBuild();
        fullOfOne();
        fullOfAllPlaces();
        fullOfAThousand();
        listedRowByRowAndByColumns();
        entriesGoRoundInBuild();
        entriesGoRoundToZeroInBuild();
        goneRoundToZeroMakesRoomInBuild();
        productsGoRoundInMultiplyVector();
        sumsGoRoundInMultiplyVector();
        goesRoundToZeroInMultiplyVector();
        productsGoRoundInSquare();
        sumsGoRoundInSquare();
        goesRoundToZeroInSquare();
        goneRoundToZeroMakesRoomInSquare();
        DUE.end();
    }

    // "Its SUPPORT are the places (i, j) whose entry isn't 0": one that is empty

    private static void dueEmpty(String what, RowSparse m, int side) {
        int[][] zeros = new int[side][side];
        DUE.matrix(what, m, zeros);
        Given.x(m, new int[] {7, 8, 9});
        DUE.yes(what + ": multiplyVector", m.multiplyVector());
        DUE.product(what + ": multiplyVector", m, new int[side]);
        DUE.same(what + ": build", m.build(), 0);
        DUE.same(what + ": square", m.square(), 0);
        DUE.yes(what + ": transpose", m.transpose());
        DUE.matrix(what + ": in the end", m, zeros);
    }

    private static void emptyFromTheStart() {
        dueEmpty("empty, new", new RowSparse(3, 3, 2), 3);
        dueEmpty("empty, smallest", new RowSparse(1, 1, 1), 1);
        RowSparse wide = new RowSparse(2, 3, 1);
        DUE.yes("empty, wide: transpose", wide.transpose());
        DUE.matrix("empty, wide", wide, new int[3][2]);
    }

    private static void emptyByBuild() {
        RowSparse m = Given.matrix(3, Given.row(1, 0, 2), Given.row(0, 0, 0), Given.row(0, -3, 0));
        Given.x(m, 1, 1, 1);
        m.multiplyVector();
        m.add(2, 1, 3);
        m.add(0, 2, -2);
        m.add(0, 0, -1);
        DUE.same("empty, by build", m.build(), 0);
        DUE.product("empty, y of before", m, 3, 0, -3);
        dueEmpty("empty, by build", m, 3);

        RowSparse zeros = new RowSparse(3, 3, 2);
        zeros.add(0, 0, 0);
        zeros.add(2, 2, 0);
        DUE.same("empty, built of 0", zeros.build(), 0);
        dueEmpty("empty, built of 0", zeros, 3);
    }

    private static void emptyBySquare() {
        RowSparse m = Given.matrix(3, Given.row(0, 5, 6), Given.row(0, 0, 0), Given.row(0, 0, 0));
        DUE.same("empty, by square", m.square(), 0);
        dueEmpty("empty, by square", m, 3);
    }

    // "at most CAP of them are kept": a SUPPORT that is full

    private static void fullByBuild() {
        RowSparse m = Given.matrix(3, Given.row(0, 2, 0), Given.row(0, 0, 3), Given.row(4, 0, 0));
        DUE.matrix("full", m, Given.row(0, 2, 0), Given.row(0, 0, 3), Given.row(4, 0, 0));
        DUE.same("full: beyond the last", m.colAt(3), NONE);
        Given.x(m, 1, 10, 100);
        m.multiplyVector();
        DUE.product("full: multiplied", m, 20, 300, 4);
        DUE.same("full: square", m.square(), 3);
        DUE.matrix("full: square", m, Given.row(0, 0, 6), Given.row(12, 0, 0), Given.row(0, 8, 0));
        DUE.yes("full: transpose", m.transpose());
        DUE.matrix("full: transpose", m, Given.row(0, 12, 0), Given.row(0, 0, 8), Given.row(6, 0, 0));
        m.add(2, 2, 1);
        DUE.same("full: one more", m.build(), NONE);
        m.add(0, 1, -12);
        DUE.same("full: one for another", m.build(), 3);
        DUE.matrix("full: one for another", m, Given.row(0, 0, 0), Given.row(0, 0, 8), Given.row(6, 0, 1));
    }

    private static void fullOfOne() {
        RowSparse m = new RowSparse(2, 2, 1);
        m.add(1, 1, 3);
        DUE.same("full of one", m.build(), 1);
        DUE.matrix("full of one", m, Given.row(0, 0), Given.row(0, 3));
        m.add(0, 0, 1);
        DUE.same("full of one: a second", m.build(), NONE);
        DUE.same("full of one: square", m.square(), 1);
        DUE.matrix("full of one: square", m, Given.row(0, 0), Given.row(0, 9));
    }

    private static void fullOfAllPlaces() {
        RowSparse m = Given.matrix(1000, Given.row(1, 2), Given.row(3, 4));
        DUE.matrix("all places", m, Given.row(1, 2), Given.row(3, 4));
        DUE.same("all places: beyond the last", m.colAt(4), NONE);
        DUE.same("all places: square", m.square(), 4);
        DUE.matrix("all places: square", m, Given.row(7, 10), Given.row(15, 22));
    }

    private static void fullOfAThousand() {
        RowSparse m = Given.hook(1000);
        DUE.same("a thousand: square", m.square(), 1000);
        DUE.same("a thousand: nnz", m.nnz(), 1000);
        DUE.same("a thousand: the last one's column", m.colAt(999), 39);
        DUE.same("a thousand: beyond the last", m.colAt(1000), NONE);
        DUE.same("a thousand: rowStart(24)", m.rowStart(24), 960);
        DUE.same("a thousand: rowStart(60)", m.rowStart(60), 1000);
        DUE.yes("a thousand: transpose", m.transpose());
        DUE.same("a thousand: turned, rowStart(39)", m.rowStart(39), 975);
        DUE.same("a thousand: turned, the last one's column", m.colAt(999), 24);
        m.add(59, 59, 1);
        DUE.same("a thousand: one more", m.build(), NONE);
        m.add(39, 24, -m.at(39, 24));
        DUE.same("a thousand: one for another", m.build(), 1000);
        DUE.same("a thousand: the new last one's column", m.colAt(999), 59);
        DUE.same("a thousand: what went", m.at(39, 24), 0);
        m.setX(59, 5);
        m.multiplyVector();
        DUE.same("a thousand: y(59)", m.y(59), 5);
    }

    // "listed row by row, in a row by columns"

    private static void listedRowByRowAndByColumns() {
        RowSparse m = new RowSparse(2, 60, 6);
        m.add(1, 0, 1);
        m.add(0, 59, 1);
        m.add(1, 59, 1);
        m.add(0, 0, 1);
        m.build();
        m.add(1, 30, 1);
        m.add(0, 30, 1);
        DUE.same("list: told in any order", m.build(), 6);
        int[] columns = {0, 30, 59, 0, 30, 59, NONE};
        for (int k = 0; k < columns.length; k++) {
            DUE.same("list: colAt(" + k + ")", m.colAt(k), columns[k]);
        }
        DUE.same("list: rowStart(1)", m.rowStart(1), 3);
    }

    // "All sums and products are those of int (they go round)", promise 3

    private static void entriesGoRoundInBuild() {
        RowSparse m = new RowSparse(1, 3, 6);
        m.add(0, 0, MAX);
        m.add(0, 0, 1);
        m.add(0, 1, MIN);
        m.add(0, 1, -1);
        m.add(0, 2, MAX);
        m.add(0, 2, MAX);
        DUE.same("round: within what is pending", m.build(), 3);
        DUE.matrix("round: within what is pending", m, Given.row(MIN, MAX, -2));
        m.add(0, 0, -1);
        m.add(0, 1, 2);
        m.add(0, 2, MIN);
        DUE.same("round: with what was there", m.build(), 3);
        DUE.matrix("round: with what was there", m, Given.row(MAX, MIN + 1, MAX - 1));
        RowSparse ends = Given.matrix(2, Given.row(MIN, MAX));
        DUE.matrix("round: the ends themselves", ends, Given.row(MIN, MAX));
    }

    private static void entriesGoRoundToZeroInBuild() {
        RowSparse m = new RowSparse(2, 2, 9);
        m.add(0, 0, MIN);
        m.add(0, 0, MIN);
        m.add(0, 1, MAX);
        m.add(0, 1, MAX);
        m.add(0, 1, 2);
        m.add(1, 1, MIN);
        DUE.same("round to 0: within what is pending", m.build(), 1);
        DUE.matrix("round to 0: within what is pending", m, Given.row(0, 0), Given.row(0, MIN));
        m.add(1, 1, MIN);
        DUE.same("round to 0: with what was there", m.build(), 0);
        DUE.matrix("round to 0: with what was there", m, Given.row(0, 0), Given.row(0, 0));
    }

    private static void goneRoundToZeroMakesRoomInBuild() {
        RowSparse m = Given.matrix(2, Given.row(0, 0), Given.row(5, MIN));
        m.add(0, 1, 1);
        DUE.same("round to 0: full", m.build(), NONE);
        m.add(1, 1, MIN);
        DUE.same("round to 0: room", m.build(), 2);
        DUE.matrix("round to 0: room", m, Given.row(0, 1), Given.row(5, 0));
    }

    // The same sentence, promise 9

    private static void productsGoRoundInMultiplyVector() {
        RowSparse m = Given.matrix(4, Given.row(MAX), Given.row(HALF + 1), Given.row(MIN), Given.row(123456789));
        Given.x(m, MAX);
        m.multiplyVector();
        DUE.product("round: times MAX", m, 1, MAX - HALF, MIN, MAX - 123456788);
        Given.x(m, MIN);
        m.multiplyVector();
        DUE.product("round: times MIN", m, MIN, MIN, 0, MIN);
        Given.x(m, HALF + 1);
        m.multiplyVector();
        DUE.product("round: times 65537", m, MAX - HALF, 2 * HALF + 1, MIN, (int) (123456789L * 65537L));
        Given.x(m, -1);
        m.multiplyVector();
        DUE.product("round: times -1", m, -MAX, -HALF - 1, MIN, -123456789);
    }

    private static void sumsGoRoundInMultiplyVector() {
        RowSparse m = Given.matrix(6, Given.row(1, 1, 0), Given.row(-1, 0, -1), Given.row(0, 1, 1));
        Given.x(m, MAX, 1, 2);
        m.multiplyVector();
        DUE.product("round: sums", m, MIN, MAX, 3);
    }

    private static void goesRoundToZeroInMultiplyVector() {
        RowSparse m = Given.matrix(4, Given.row(HALF, 0), Given.row(1, 1), Given.row(0, 2));
        Given.x(m, 3, 4);
        m.multiplyVector();
        DUE.product("round to 0: before", m, 3 * HALF, 7, 8);
        Given.x(m, HALF, -HALF);
        m.multiplyVector();
        DUE.product("round to 0: a product", m, 0, 0, -2 * HALF);
        Given.x(m, MIN, MIN);
        m.multiplyVector();
        DUE.product("round to 0: a sum", m, 0, 0, 0);
        DUE.same("round to 0: A stays", m.nnz(), 4);
    }

    // The same sentence, promise 12

    private static void productsGoRoundInSquare() {
        RowSparse m = Given.matrix(2, Given.row(MAX, 0), Given.row(0, HALF + 1));
        DUE.same("round: square", m.square(), 2);
        DUE.matrix("round: square", m, Given.row(1, 0), Given.row(0, 2 * HALF + 1));
        RowSparse n = Given.matrix(3, Given.row(-1, MIN), Given.row(0, 50000));
        DUE.same("round: square", n.square(), 3);
        // -1 * MIN is MIN, MIN * 50000 is 0, and 50000 * 50000 is beyond MAX.
        DUE.matrix("round: square", n, Given.row(1, MIN), Given.row(0, (int) 2500000000L));
    }

    private static void sumsGoRoundInSquare() {
        RowSparse m = Given.matrix(4, Given.row(1, MAX), Given.row(1, 1));
        DUE.same("round: square's sums", m.square(), 4);
        DUE.matrix("round: square's sums", m, Given.row(MIN, -2), Given.row(2, MIN));
    }

    private static void goesRoundToZeroInSquare() {
        RowSparse product = Given.matrix(2, Given.row(HALF, 0), Given.row(0, 3));
        DUE.same("round to 0: square's product", product.square(), 1);
        DUE.matrix("round to 0: square's product", product, Given.row(0, 0), Given.row(0, 9));

        RowSparse sum = Given.matrix(4, Given.row(0, MIN, MIN), Given.row(1, 0, 0), Given.row(1, 0, 0));
        DUE.same("round to 0: square's sum", sum.square(), 4);
        int[] both = Given.row(0, MIN, MIN);
        DUE.matrix("round to 0: square's sum", sum, Given.row(0, 0, 0), both, both);

        RowSparse all = Given.matrix(4, Given.row(HALF, HALF), Given.row(HALF, HALF));
        DUE.same("round to 0: all of it", all.square(), 0);
        DUE.matrix("round to 0: all of it", all, Given.row(0, 0), Given.row(0, 0));
    }

    /** All four places get products, but only those that aren't 0 in the end count against cap. */
    private static void goneRoundToZeroMakesRoomInSquare() {
        int third = 0x55555555;
        RowSparse round = Given.matrix(3, Given.row(1, 3), Given.row(third, 0));
        DUE.same("round to 0: square fits", round.square(), 3);
        DUE.matrix("round to 0: square fits", round, Given.row(0, 3), Given.row(third, -1));

        RowSparse cancel = Given.matrix(3, Given.row(2, 1), Given.row(-4, 0));
        DUE.same("to 0: square fits", cancel.square(), 3);
        DUE.matrix("to 0: square fits", cancel, Given.row(0, 2), Given.row(-8, -4));
    }
}
