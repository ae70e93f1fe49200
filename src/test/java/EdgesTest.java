/**
 * A method for each sentence of the promises that names a boundary case, with its words above it.
 * That a refused call changes nothing is the matter of RefusedTest, the terms that of TermsTest.
 */
public final class EdgesTest {
    private static final int MIN = Integer.MIN_VALUE;
    private static final int MAX = Integer.MAX_VALUE;
    private static final int NONE = RowSparse.NONE;
    private static final int[] BELOW = {0, -1, -60, MIN};
    private static final int[] OUTSIDE = {-1, -2, MIN, MIN + 1, 60, 61, 1000, MAX - 1, MAX};
    private static final Due DUE = new Due();

    public static void main(String[] args) {
        rowsTooSmall();
        rowsTooLarge();
        colsTooSmall();
        colsTooLarge();
        capTooSmall();
        capTooLarge();
        sizesAtTheirEnds();
        newObjectHasNothingPending();
        addWithoutSuchARow();
        addWithoutSuchAColumn();
        addWhenCapArePending();
        addWhenCapArePendingAfterOtherCalls();
        buildLeavesNothingPending();
        buildUpToCap();
        buildBeyondCap();
        buildCountsTheEndAlone();
        atOutside();
        atARowThatIsNoMore();
        rowStartFromFirstToLast();
        rowStartOutside();
        colAtOutside();
        setXOutside();
        yOutside();
        transposeMakesXAndYZero();
        transposeWhenSomethingIsPending();
        squareLeavesPendingXAndY();
        squareNotAlike();
        squareUpToCap();
        squareBeyondCap();
        countOutside();
        DUE.end();
    }

    // Promise 1: "ROWS and COLS 1 .. 60, CAP 1 .. 1000 (others count as the nearest)"

    private static void rowsTooSmall() {
        for (int rows : BELOW) {
            RowSparse m = new RowSparse(rows, 5, 7);
            DUE.sizes("1: rows " + rows, m, 1, 5, 7);
            DUE.yes("1: row 0 of rows " + rows, m.add(0, 4, 1));
            DUE.no("1: row 1 of rows " + rows, m.add(1, 4, 1));
        }
    }

    private static void rowsTooLarge() {
        for (int rows : new int[] {61, 62, 1000, MAX}) {
            RowSparse m = new RowSparse(rows, 5, 7);
            DUE.sizes("1: rows " + rows, m, 60, 5, 7);
            DUE.yes("1: row 59 of rows " + rows, m.add(59, 4, 1));
            DUE.no("1: row 60 of rows " + rows, m.add(60, 4, 1));
            DUE.same("1: build of rows " + rows, m.build(), 1);
            DUE.same("1: rowStart(60) of rows " + rows, m.rowStart(60), 1);
        }
    }

    private static void colsTooSmall() {
        for (int cols : BELOW) {
            RowSparse m = new RowSparse(5, cols, 7);
            DUE.sizes("1: cols " + cols, m, 5, 1, 7);
            DUE.yes("1: column 0 of cols " + cols, m.setX(0, 1));
            DUE.no("1: column 1 of cols " + cols, m.setX(1, 1));
        }
    }

    private static void colsTooLarge() {
        for (int cols : new int[] {61, 62, 1000, MAX}) {
            RowSparse m = new RowSparse(5, cols, 7);
            DUE.sizes("1: cols " + cols, m, 5, 60, 7);
            DUE.yes("1: column 59 of cols " + cols, m.setX(59, 1));
            DUE.no("1: column 60 of cols " + cols, m.setX(60, 1));
            DUE.yes("1: add in column 59 of cols " + cols, m.add(4, 59, 1));
            DUE.same("1: build of cols " + cols, m.build(), 1);
            DUE.same("1: colAt(0) of cols " + cols, m.colAt(0), 59);
        }
    }

    private static void capTooSmall() {
        for (int cap : BELOW) {
            RowSparse m = new RowSparse(5, 5, cap);
            DUE.sizes("1: cap " + cap, m, 5, 5, 1);
            DUE.yes("1: first of cap " + cap, m.add(0, 0, 1));
            DUE.no("1: second of cap " + cap, m.add(0, 0, 1));
            DUE.same("1: build of cap " + cap, m.build(), 1);
        }
    }

    private static void capTooLarge() {
        for (int cap : new int[] {1001, 1002, 3600, MAX}) {
            RowSparse m = Given.hook(cap);
            DUE.sizes("1: cap " + cap, m, 60, 60, 1000);
            DUE.same("1: 1000 places of cap " + cap, m.square(), 1000);
            m.add(59, 59, 1);
            DUE.same("1: 1001 places of cap " + cap, m.build(), NONE);
        }
    }

    private static void sizesAtTheirEnds() {
        DUE.sizes("1: smallest", new RowSparse(1, 1, 1), 1, 1, 1);
        DUE.sizes("1: just above", new RowSparse(2, 2, 2), 2, 2, 2);
        DUE.sizes("1: just below", new RowSparse(59, 59, 999), 59, 59, 999);
        DUE.sizes("1: largest", new RowSparse(60, 60, 1000), 60, 60, 1000);
        DUE.sizes("1: all too small", new RowSparse(MIN, MIN, MIN), 1, 1, 1);
        DUE.sizes("1: all too large", new RowSparse(MAX, MAX, MAX), 60, 60, 1000);
        DUE.sizes("1: each its own way", new RowSparse(MIN, MAX, 61), 1, 60, 61);
    }

    // Promise 1: "nothing is PENDING"

    private static void newObjectHasNothingPending() {
        RowSparse m = new RowSparse(2, 3, 1);
        DUE.same("1: count(3)", m.count(3), 0);
        DUE.yes("1: so transpose isn't refused", m.transpose());
        DUE.same("1: so build adds nothing", m.build(), 0);
        DUE.yes("1: so there is room for one", m.add(0, 0, 1));
    }

    // Promise 2: "false if there is no such row or column, or CAP are PENDING"

    private static void addWithoutSuchARow() {
        RowSparse m = new RowSparse(3, 5, 9);
        DUE.yes("2: first row", m.add(0, 0, 1));
        DUE.yes("2: last row", m.add(2, 0, 1));
        DUE.no("2: row 3, a column but no row", m.add(3, 0, 1));
        for (int i : OUTSIDE) {
            DUE.no("2: row " + i, m.add(i, 0, 1));
            DUE.no("2: row and column " + i, m.add(i, i, 1));
        }
        DUE.same("2: pending", m.count(3), 2);
        m.transpose();
        DUE.no("2: refused, so still no row 3", m.add(3, 0, 1));
    }

    private static void addWithoutSuchAColumn() {
        RowSparse m = new RowSparse(5, 3, 9);
        DUE.yes("2: first column", m.add(0, 0, 1));
        DUE.yes("2: last column", m.add(0, 2, 1));
        DUE.no("2: column 3, a row but no column", m.add(0, 3, 1));
        for (int j : OUTSIDE) {
            DUE.no("2: column " + j, m.add(0, j, 1));
        }
        DUE.same("2: pending", m.count(3), 2);
        DUE.same("2: build", m.build(), 2);
        m.transpose();
        DUE.yes("2: turned, column 4", m.add(0, 4, 1));
        DUE.no("2: turned, column 5", m.add(0, 5, 1));
        DUE.no("2: turned, row 3", m.add(3, 0, 1));
    }

    private static void addWhenCapArePending() {
        // 509 to fill it, two that are refused and a count are all the 512 calls of an object.
        for (int cap : new int[] {1, 2, 7, 400, 509}) {
            RowSparse m = new RowSparse(4, 4, cap);
            for (int n = 0; n < cap; n++) {
                DUE.yes("2: add " + n + " of cap " + cap, m.add(n % 4, n % 3, 1));
            }
            DUE.no("2: beyond cap " + cap, m.add(0, 0, 1));
            DUE.no("2: beyond cap " + cap + ", a 0", m.add(0, 0, 0));
            DUE.same("2: pending of cap " + cap, m.count(3), cap);
        }
        RowSparse zeros = new RowSparse(1, 1, 2);
        DUE.yes("2: a 0 is pending", zeros.add(0, 0, 0));
        DUE.yes("2: a second 0 is pending", zeros.add(0, 0, 0));
        DUE.no("2: a third is too many", zeros.add(0, 0, 0));
    }

    private static void addWhenCapArePendingAfterOtherCalls() {
        RowSparse m = Given.matrix(2, Given.row(3, 0), Given.row(0, 4));
        DUE.yes("2: a full support leaves room for triplets", m.add(0, 1, 1));
        DUE.yes("2: up to cap", m.add(1, 0, 1));
        DUE.same("2: build is refused", m.build(), NONE);
        DUE.no("2: after a refused build", m.add(0, 0, 1));
        DUE.same("2: square", m.square(), 2);
        DUE.no("2: after a square", m.add(0, 0, 1));

        RowSparse n = Given.matrix(2, Given.row(3, 0), Given.row(0, 4));
        n.add(0, 0, 1);
        n.add(0, 0, 1);
        DUE.same("2: build", n.build(), 2);
        DUE.yes("2: room again after a build", n.add(0, 0, 1));
        DUE.yes("2: room for cap again", n.add(0, 0, 1));
        DUE.no("2: but no more", n.add(0, 0, 1));
    }

    // Promise 3: "nothing is PENDING any more"

    private static void buildLeavesNothingPending() {
        RowSparse m = new RowSparse(2, 2, 4);
        m.add(0, 1, 5);
        m.add(1, 0, 6);
        DUE.same("3: build", m.build(), 2);
        DUE.same("3: pending", m.count(3), 0);
        DUE.same("3: build again", m.build(), 2);
        DUE.matrix("3: added once", m, Given.row(0, 5), Given.row(6, 0));
        m.add(0, 0, 1);
        DUE.same("3: pending anew", m.count(3), 1);
        DUE.same("3: only the new one comes in", m.build(), 3);
        DUE.matrix("3: only the new one", m, Given.row(1, 5), Given.row(6, 0));
        DUE.yes("3: so transpose isn't refused", m.transpose());
    }

    // Promise 3: "NONE, and nothing changes, if it would have more than CAP"

    private static void buildUpToCap() {
        RowSparse m = Given.matrix(3, Given.row(1, 0), Given.row(0, 2));
        m.add(1, 0, 3);
        DUE.same("3: exactly cap", m.build(), 3);
        DUE.matrix("3: exactly cap", m, Given.row(1, 0), Given.row(3, 2));
        m.add(0, 0, 1);
        m.add(1, 0, 1);
        m.add(1, 1, 1);
        DUE.same("3: a full support takes more at its places", m.build(), 3);
        DUE.matrix("3: more at its places", m, Given.row(2, 0), Given.row(4, 3));
        DUE.same("3: build of nothing when full", m.build(), 3);
    }

    private static void buildBeyondCap() {
        RowSparse m = Given.matrix(3, Given.row(1, 0, 0), Given.row(0, 2, 3));
        Given.x(m, 1, 10, 100);
        m.multiplyVector();
        m.add(0, 0, 7);
        m.add(1, 0, 8);
        for (int again = 0; again < 3; again++) {
            DUE.same("3: one more than cap", m.build(), NONE);
            DUE.matrix("3: nothing changes", m, Given.row(1, 0, 0), Given.row(0, 2, 3));
            DUE.product("3: nothing changes", m, 1, 320);
            DUE.same("3: what is pending stays so", m.count(3), 2);
        }
        DUE.no("3: so transpose is refused", m.transpose());
        m.multiplyVector();
        DUE.product("3: x stays", m, 1, 320);
        m.add(1, 2, -3);
        DUE.same("3: goes once it fits", m.build(), 3);
        DUE.matrix("3: with what was pending, once", m, Given.row(8, 0, 0), Given.row(8, 2, 0));

        RowSparse fresh = new RowSparse(1, 3, 2);
        fresh.add(0, 2, 1);
        fresh.add(0, 0, 1);
        DUE.same("3: two of two", fresh.build(), 2);
        fresh.add(0, 1, 1);
        DUE.same("3: three of two", fresh.build(), NONE);
        DUE.matrix("3: three of two", fresh, Given.row(1, 0, 1));
    }

    /** What goes away in the last row makes room for what comes in the first. */
    private static void buildCountsTheEndAlone() {
        RowSparse m = Given.matrix(2, Given.row(0, 0), Given.row(4, 5));
        m.add(0, 0, 1);
        m.add(1, 1, -5);
        DUE.same("3: one comes, one goes", m.build(), 2);
        DUE.matrix("3: one comes, one goes", m, Given.row(1, 0), Given.row(4, 0));
        m.add(1, 1, 9);
        DUE.same("3: full again", m.build(), NONE);
        m.add(1, 1, -9);
        DUE.same("3: came and went within what is pending", m.build(), 2);
        DUE.matrix("3: came and went", m, Given.row(1, 0), Given.row(4, 0));
    }

    // Promise 5: "0 if there is no such row or column"

    private static void atOutside() {
        RowSparse wide = Given.matrix(6, Given.row(1, 2, 3), Given.row(4, 5, 6));
        RowSparse tall = Given.matrix(6, Given.row(1, 2), Given.row(3, 4), Given.row(5, 6));
        DUE.same("5: first", wide.at(0, 0), 1);
        DUE.same("5: last", wide.at(1, 2), 6);
        DUE.same("5: row 2, a column but no row", wide.at(2, 0), 0);
        DUE.same("5: column 3", wide.at(0, 3), 0);
        DUE.same("5: column 2, a row but no column", tall.at(0, 2), 0);
        DUE.same("5: row 3", tall.at(3, 0), 0);
        DUE.same("5: both at their ends", tall.at(3, 2), 0);
        DUE.same("5: column -1 isn't the last of the row before", wide.at(1, -1), 0);
        for (int outside : OUTSIDE) {
            DUE.same("5: row " + outside, wide.at(outside, 0), 0);
            DUE.same("5: column " + outside, wide.at(0, outside), 0);
            DUE.same("5: both " + outside, wide.at(outside, outside), 0);
        }
        wide.transpose();
        DUE.same("5: turned, row 2", wide.at(2, 0), 3);
        DUE.same("5: turned, column 2", wide.at(0, 2), 0);
    }

    /** Row 2 was there while the matrix was tall, and had entries. */
    private static void atARowThatIsNoMore() {
        RowSparse m = Given.matrix(6, Given.row(1, 2, 3), Given.row(4, 5, 6));
        m.transpose();
        m.add(0, 0, -1);
        m.add(1, 0, -2);
        m.build();
        m.transpose();
        DUE.matrix("5: turned back", m, Given.row(0, 0, 3), Given.row(4, 5, 6));
        for (int j = 0; j < 3; j++) {
            DUE.same("5: a row that is no more, column " + j, m.at(2, j), 0);
        }
    }

    // Promise 6: "(0 .. ROWS); NONE for others"

    private static void rowStartFromFirstToLast() {
        RowSparse m = Given.matrix(4, Given.row(0, 0), Given.row(1, 2), Given.row(0, 3));
        DUE.same("6: rowStart(0)", m.rowStart(0), 0);
        DUE.same("6: rowStart(1), behind an empty row", m.rowStart(1), 0);
        DUE.same("6: rowStart(2)", m.rowStart(2), 2);
        DUE.same("6: rowStart(ROWS)", m.rowStart(3), 3);
        RowSparse one = Given.matrix(1, Given.row(9));
        DUE.same("6: rowStart(0) of one row", one.rowStart(0), 0);
        DUE.same("6: rowStart(ROWS) of one row", one.rowStart(1), 1);
        DUE.same("6: rowStart(2) of one row", one.rowStart(2), NONE);
        RowSparse most = new RowSparse(60, 60, 1);
        most.add(59, 59, 1);
        most.build();
        DUE.same("6: rowStart(59) of sixty", most.rowStart(59), 0);
        DUE.same("6: rowStart(60) of sixty", most.rowStart(60), 1);
        DUE.same("6: rowStart(61) of sixty", most.rowStart(61), NONE);
    }

    private static void rowStartOutside() {
        RowSparse m = Given.matrix(4, Given.row(0, 1, 2, 3));
        DUE.same("6: ROWS + 1, a column but no row", m.rowStart(2), NONE);
        for (int outside : OUTSIDE) {
            DUE.same("6: rowStart(" + outside + ")", m.rowStart(outside), NONE);
        }
        m.transpose();
        DUE.same("6: turned, ROWS", m.rowStart(4), 3);
        DUE.same("6: turned, ROWS + 1", m.rowStart(5), NONE);
        m.transpose();
        DUE.same("6: turned back, ROWS + 1", m.rowStart(2), NONE);
        DUE.same("6: a new object, ROWS", new RowSparse(2, 2, 1).rowStart(2), 0);
        DUE.same("6: a new object, ROWS + 1", new RowSparse(2, 2, 1).rowStart(3), NONE);
    }

    // Promise 7: "NONE if there is none such"

    private static void colAtOutside() {
        RowSparse m = Given.matrix(4, Given.row(0, 1), Given.row(2, 0), Given.row(0, 3));
        DUE.same("7: first", m.colAt(0), 1);
        DUE.same("7: last", m.colAt(2), 1);
        DUE.same("7: one beyond, within cap", m.colAt(3), NONE);
        DUE.same("7: one beyond cap", m.colAt(4), NONE);
        for (int outside : OUTSIDE) {
            DUE.same("7: colAt(" + outside + ")", m.colAt(outside), NONE);
        }
        m.add(0, 0, 1);
        DUE.same("7: pending is no place", m.colAt(3), NONE);
        DUE.same("7: build up to cap", m.build(), 4);
        DUE.same("7: last of a full support", m.colAt(3), 1);
        DUE.same("7: one beyond a full support", m.colAt(4), NONE);
        m.add(2, 1, -3);
        m.add(1, 0, -2);
        m.build();
        DUE.same("7: last that is left", m.colAt(1), 1);
        DUE.same("7: none where places were", m.colAt(2), NONE);
        DUE.same("7: none in a new object", new RowSparse(2, 2, 4).colAt(0), NONE);
    }

    // Promise 8: "false if there is none such"

    private static void setXOutside() {
        RowSparse tall = Given.matrix(3, Given.row(1, 1), Given.row(1, 0), Given.row(0, 0));
        DUE.yes("8: first", tall.setX(0, 5));
        DUE.yes("8: last", tall.setX(1, 6));
        DUE.no("8: COLS, a row but no column", tall.setX(2, 7));
        for (int outside : OUTSIDE) {
            DUE.no("8: setX(" + outside + ")", tall.setX(outside, 8));
        }
        tall.multiplyVector();
        DUE.product("8: only those that exist were set", tall, 11, 5, 0);
        tall.transpose();
        DUE.yes("8: turned, COLS is 3", tall.setX(2, 1));
        DUE.no("8: turned, setX(3)", tall.setX(3, 1));

        RowSparse wide = new RowSparse(1, 3, 1);
        DUE.yes("8: wide, a column but no row", wide.setX(2, 1));
        DUE.no("8: wide, COLS", wide.setX(3, 1));
    }

    // Promise 10: "0 if there is none such"

    private static void yOutside() {
        RowSparse wide = Given.matrix(6, Given.row(1, 1, 1), Given.row(1, 1, 1));
        Given.x(wide, 1, 2, 3);
        wide.multiplyVector();
        DUE.product("10: first and last", wide, 6, 6);
        DUE.same("10: ROWS, a column but no row", wide.y(2), 0);
        DUE.same("10: y(3)", wide.y(3), 0);
        for (int outside : OUTSIDE) {
            DUE.same("10: y(" + outside + ")", wide.y(outside), 0);
        }
        wide.transpose();
        Given.x(wide, 1, 2);
        wide.multiplyVector();
        DUE.product("10: turned, ROWS is 3", wide, 3, 3, 3, 0);
        wide.transpose();
        DUE.product("10: turned back", wide, 0, 0, 0, 0);
    }

    // Promise 11: "x and y are 0: true; false if something is PENDING"

    private static void transposeMakesXAndYZero() {
        RowSparse m = Given.matrix(9, Given.row(1, 2, 3), Given.row(4, 5, 6), Given.row(7, 8, 9));
        Given.x(m, 1, 1, 1);
        m.multiplyVector();
        DUE.product("11: before", m, 6, 15, 24);
        DUE.yes("11: transpose", m.transpose());
        DUE.product("11: y is 0", m, 0, 0, 0);
        m.multiplyVector();
        DUE.product("11: x is 0", m, 0, 0, 0);
        Given.x(m, 1, 1, 1);
        m.multiplyVector();
        DUE.product("11: of the columns", m, 12, 15, 18);
        DUE.matrix("11: turned", m, Given.row(1, 4, 7), Given.row(2, 5, 8), Given.row(3, 6, 9));

        RowSparse wide = Given.matrix(2, Given.row(0, 1, 2));
        Given.x(wide, 1, 1, 1);
        wide.multiplyVector();
        DUE.yes("11: wide", wide.transpose());
        DUE.product("11: wide, y is 0", wide, 0, 0, 0);
        wide.multiplyVector();
        DUE.product("11: wide, x is 0", wide, 0, 0, 0);
        DUE.yes("11: tall", wide.transpose());
        wide.multiplyVector();
        DUE.product("11: tall, all of x is 0", wide, 0);

        RowSparse tall = Given.matrix(3, Given.row(1), Given.row(2), Given.row(3));
        Given.x(tall, 1);
        tall.multiplyVector();
        tall.transpose();
        tall.transpose();
        DUE.product("11: turned and back, all of y is 0", tall, 0, 0, 0);
    }

    private static void transposeWhenSomethingIsPending() {
        RowSparse m = Given.matrix(2, Given.row(0, 1, 2));
        Given.x(m, 1, 1, 1);
        m.multiplyVector();
        m.add(0, 0, 0);
        DUE.no("11: a single 0 is pending", m.transpose());
        DUE.matrix("11: refused", m, Given.row(0, 1, 2));
        DUE.product("11: refused", m, 3);
        m.add(0, 0, 1);
        DUE.no("11: cap are pending", m.transpose());
        DUE.same("11: build is refused", m.build(), NONE);
        DUE.no("11: after a refused build", m.transpose());

        RowSparse n = Given.matrix(2, Given.row(0, 1, 2));
        n.add(0, 2, 1);
        DUE.no("11: one is pending", n.transpose());
        n.build();
        DUE.yes("11: none is pending after build", n.transpose());
        DUE.matrix("11: after build", n, Given.row(0), Given.row(1), Given.row(3));
        DUE.no("11: add that is refused", n.add(0, 1, 1));
        DUE.yes("11: so none is pending", n.transpose());
        DUE.matrix("11: turned back", n, Given.row(0, 1, 3));
    }

    // Promise 12: "(what is PENDING stays so, x and y stay)"

    private static void squareLeavesPendingXAndY() {
        RowSparse m = Given.matrix(4, Given.row(1, 2), Given.row(0, 3));
        Given.x(m, 10, 1);
        m.multiplyVector();
        m.add(1, 0, 100);
        m.add(0, 0, 1000);
        DUE.same("12: square, without what is pending", m.square(), 3);
        DUE.matrix("12: square", m, Given.row(1, 8), Given.row(0, 9));
        DUE.same("12: what is pending stays so", m.count(3), 2);
        DUE.product("12: y stays", m, 12, 3);
        m.multiplyVector();
        DUE.product("12: x stays", m, 18, 9);
        DUE.same("12: build", m.build(), 4);
        DUE.matrix("12: what was pending came in", m, Given.row(1001, 8), Given.row(100, 9));
    }

    // Promise 12: "NOTSQUARE if ROWS and COLS aren't alike"

    private static void squareNotAlike() {
        DUE.same("12: wide", new RowSparse(2, 3, 9).square(), RowSparse.NOTSQUARE);
        DUE.same("12: tall", new RowSparse(3, 2, 9).square(), RowSparse.NOTSQUARE);
        DUE.same("12: one row", new RowSparse(1, 60, 9).square(), RowSparse.NOTSQUARE);
        DUE.same("12: one column", new RowSparse(60, 1, 9).square(), RowSparse.NOTSQUARE);
        DUE.same("12: 59 and 60", new RowSparse(59, 60, 9).square(), RowSparse.NOTSQUARE);
        DUE.same("12: alike after the limits", new RowSparse(61, 99, 9).square(), 0);
        DUE.same("12: alike after the limits, small", new RowSparse(0, -5, 9).square(), 0);
        DUE.same("12: a single entry", Given.matrix(1, Given.row(-3)).square(), 1);

        RowSparse m = Given.matrix(2, Given.row(1, 0, 2), Given.row(0, 0, 0));
        DUE.same("12: a full support that isn't square", m.square(), RowSparse.NOTSQUARE);
        DUE.matrix("12: refused", m, Given.row(1, 0, 2), Given.row(0, 0, 0));
        m.transpose();
        DUE.same("12: nor turned about", m.square(), RowSparse.NOTSQUARE);
        DUE.matrix("12: refused", m, Given.row(1, 0), Given.row(0, 0), Given.row(2, 0));
    }

    // Promise 12: "NONE, if it would have more than CAP"

    private static void squareUpToCap() {
        RowSparse m = Given.matrix(4, Given.row(1, 1), Given.row(1, 0));
        DUE.same("12: exactly cap", m.square(), 4);
        DUE.matrix("12: exactly cap", m, Given.row(2, 1), Given.row(1, 1));
        DUE.same("12: again", m.square(), 4);
        DUE.matrix("12: again", m, Given.row(5, 3), Given.row(3, 2));
        RowSparse largest = Given.hook(1000);
        DUE.same("12: a thousand", largest.square(), 1000);
        DUE.same("12: a thousand, at(0, 0)", largest.at(0, 0), 25);
        DUE.same("12: a thousand, again", largest.square(), 1000);
        DUE.same("12: a thousand, rowStart(25)", largest.rowStart(25), 1000);
    }

    private static void squareBeyondCap() {
        RowSparse m = Given.matrix(3, Given.row(1, 1), Given.row(1, 0));
        Given.x(m, 10, 1);
        m.multiplyVector();
        for (int again = 0; again < 3; again++) {
            DUE.same("12: one more than cap", m.square(), NONE);
            DUE.matrix("12: refused", m, Given.row(1, 1), Given.row(1, 0));
            DUE.product("12: refused", m, 11, 10);
        }
        m.add(0, 0, -1);
        DUE.same("12: refused with something pending", m.square(), NONE);
        DUE.same("12: what is pending stays so", m.count(3), 1);
        DUE.same("12: build goes on", m.build(), 2);
        DUE.same("12: now it fits", m.square(), 2);
        DUE.matrix("12: now it fits", m, Given.row(1, 0), Given.row(0, 1));

        RowSparse largest = Given.hook(999);
        DUE.same("12: a thousand of 999", largest.square(), NONE);
        DUE.same("12: a thousand of 999, nnz", largest.nnz(), 64);
        DUE.same("12: a thousand of 999, colAt(63)", largest.colAt(63), 0);
    }

    // Promise 13: "NONE for others"

    private static void countOutside() {
        RowSparse m = new RowSparse(2, 3, 4);
        m.add(0, 0, 1);
        DUE.same("13: count(0)", m.count(0), 2);
        DUE.same("13: count(1)", m.count(1), 3);
        DUE.same("13: count(2)", m.count(2), 4);
        DUE.same("13: count(3)", m.count(3), 1);
        DUE.same("13: count(4)", m.count(4), NONE);
        DUE.same("13: count(5)", m.count(5), NONE);
        for (int outside : OUTSIDE) {
            DUE.same("13: count(" + outside + ")", m.count(outside), NONE);
        }
    }
}
