/** One method for each promise: ordinary inputs, the document's edges, and wrong inputs. */
public final class PromisesTest {
    private static final int MIN = Integer.MIN_VALUE;
    private static final int MAX = Integer.MAX_VALUE;
    private static final Due DUE = new Due();

    public static void main(String[] args) {
        promise1NewObject();
        promise1Limits();
        promise2Add();
        promise2AddUpToCap();
        promise3Build();
        promise3BuildRefused();
        promise4Nnz();
        promise5At();
        promise6RowStart();
        promise7ColAt();
        promise8SetX();
        promise9MultiplyVector();
        promise10Y();
        promise11Transpose();
        promise11TransposeRefused();
        promise12Square();
        promise12SquareRefused();
        promise13Count();
        largestObject();
        DUE.end();
    }

    /** Three rows, four columns: {0 5 0 -2} {0 0 0 0} {7 0 0 1}; told out of order. */
    private static RowSparse sample() {
        RowSparse m = new RowSparse(3, 4, 6);
        m.add(2, 3, 1);
        m.add(0, 3, -2);
        m.add(2, 0, 7);
        m.add(0, 1, 5);
        m.build();
        return m;
    }

    private static void dueRow(String what, RowSparse m, int i, int... entries) {
        for (int j = 0; j < entries.length; j++) {
            DUE.same(what + ": at(" + i + ", " + j + ")", m.at(i, j), entries[j]);
        }
    }

    private static void dueY(String what, RowSparse m, int... coordinates) {
        for (int i = 0; i < coordinates.length; i++) {
            DUE.same(what + ": y(" + i + ")", m.y(i), coordinates[i]);
        }
    }

    private static void dueSample(String what, RowSparse m) {
        dueRow(what, m, 0, 0, 5, 0, -2);
        dueRow(what, m, 1, 0, 0, 0, 0);
        dueRow(what, m, 2, 7, 0, 0, 1);
        DUE.same(what + ": nnz()", m.nnz(), 4);
    }

    private static void promise1NewObject() {
        RowSparse m = new RowSparse(3, 4, 6);
        DUE.same("1: rows", m.count(0), 3);
        DUE.same("1: cols", m.count(1), 4);
        DUE.same("1: cap", m.count(2), 6);
        DUE.same("1: pending", m.count(3), 0);
        DUE.same("1: nnz", m.nnz(), 0);
        DUE.same("1: rowStart(3)", m.rowStart(3), 0);
        DUE.same("1: colAt(0)", m.colAt(0), RowSparse.NONE);
        for (int i = 0; i < 3; i++) {
            dueRow("1: new", m, i, 0, 0, 0, 0);
        }
        dueY("1: new", m, 0, 0, 0);
        m.multiplyVector();
        dueY("1: new, multiplied", m, 0, 0, 0);
        DUE.same("1: build of nothing", m.build(), 0);
    }

    private static void promise1Limits() {
        dueSizes(new RowSparse(1, 1, 1), 1, 1, 1);
        dueSizes(new RowSparse(60, 60, 1000), 60, 60, 1000);
        dueSizes(new RowSparse(0, 0, 0), 1, 1, 1);
        dueSizes(new RowSparse(61, 61, 1001), 60, 60, 1000);
        dueSizes(new RowSparse(-1, 61, -1), 1, 60, 1);
        dueSizes(new RowSparse(MIN, MIN, MIN), 1, 1, 1);
        dueSizes(new RowSparse(MAX, MAX, MAX), 60, 60, 1000);
        dueSizes(new RowSparse(59, 2, 999), 59, 2, 999);
    }

    private static void dueSizes(RowSparse m, int rows, int cols, int cap) {
        DUE.same("1: rows", m.count(0), rows);
        DUE.same("1: cols", m.count(1), cols);
        DUE.same("1: cap", m.count(2), cap);
    }

    private static void promise2Add() {
        RowSparse m = new RowSparse(3, 4, 6);
        DUE.yes("2: add(2, 3, 1)", m.add(2, 3, 1));
        DUE.yes("2: add(0, 0, 0)", m.add(0, 0, 0));
        DUE.same("2: a 0 is pending too", m.count(3), 2);
        DUE.no("2: add(3, 0, 1)", m.add(3, 0, 1));
        DUE.no("2: add(0, 4, 1)", m.add(0, 4, 1));
        DUE.no("2: add(-1, 0, 1)", m.add(-1, 0, 1));
        DUE.no("2: add(0, -1, 1)", m.add(0, -1, 1));
        DUE.no("2: add(MIN, MIN, 1)", m.add(MIN, MIN, 1));
        DUE.no("2: add(MAX, MAX, 1)", m.add(MAX, MAX, 1));
        DUE.same("2: what is refused isn't pending", m.count(3), 2);
        DUE.same("2: not in A before build", m.at(2, 3), 0);
        DUE.same("2: not in the support before build", m.nnz(), 0);
        m.setX(3, 1);
        m.multiplyVector();
        DUE.same("2: not multiplied before build", m.y(2), 0);
    }

    private static void promise2AddUpToCap() {
        RowSparse m = new RowSparse(2, 2, 3);
        DUE.yes("2: first", m.add(0, 0, 1));
        DUE.yes("2: second at the same place", m.add(0, 0, 1));
        DUE.yes("2: third at the same place", m.add(0, 0, 1));
        DUE.no("2: fourth", m.add(0, 0, 1));
        DUE.same("2: pending", m.count(3), 3);
        DUE.same("2: build", m.build(), 1);
        DUE.same("2: the refused one isn't added", m.at(0, 0), 3);
        DUE.yes("2: room again after build", m.add(1, 1, 1));
    }

    private static void promise3Build() {
        RowSparse m = sample();
        dueSample("3: told in any order", m);
        DUE.same("3: nothing is pending", m.count(3), 0);
        DUE.same("3: build of nothing", m.build(), 4);
        dueSample("3: build of nothing", m);
        m.add(0, 1, -5);
        m.add(1, 2, 8);
        m.add(2, 0, 1);
        m.add(1, 2, 1);
        DUE.same("3: added to what was there", m.build(), 4);
        dueRow("3: sums", m, 0, 0, 0, 0, -2);
        dueRow("3: sums", m, 1, 0, 0, 9, 0);
        dueRow("3: sums", m, 2, 8, 0, 0, 1);
        DUE.same("3: support goes on by columns", m.colAt(0), 3);
        m.add(1, 2, MAX);
        DUE.same("3: goes round", m.build(), 4);
        DUE.same("3: goes round", m.at(1, 2), MIN + 8);
        m.add(1, 0, MIN);
        m.add(1, 0, MIN);
        DUE.same("3: a sum that goes round to 0 is no place", m.build(), 4);
        DUE.same("3: a sum that goes round to 0", m.at(1, 0), 0);
    }

    private static void promise3BuildRefused() {
        RowSparse m = new RowSparse(3, 3, 2);
        m.add(0, 0, 1);
        m.add(2, 2, 2);
        DUE.same("3: exactly cap", m.build(), 2);
        m.setX(0, 4);
        m.multiplyVector();
        m.add(0, 0, 5);
        m.add(1, 1, 3);
        DUE.same("3: more than cap", m.build(), RowSparse.NONE);
        DUE.same("3: refused, pending", m.count(3), 2);
        DUE.same("3: refused, nnz", m.nnz(), 2);
        dueRow("3: refused", m, 0, 1, 0, 0);
        dueRow("3: refused", m, 1, 0, 0, 0);
        dueRow("3: refused", m, 2, 0, 0, 2);
        DUE.same("3: refused, rowStart(1)", m.rowStart(1), 1);
        DUE.same("3: refused, colAt(1)", m.colAt(1), 2);
        dueY("3: refused", m, 4, 0, 0);
        DUE.same("3: refused again", m.build(), RowSparse.NONE);
        DUE.no("3: refused, no room for more", m.add(2, 2, -2));

        RowSparse n = new RowSparse(2, 2, 3);
        n.add(0, 0, 1);
        n.add(0, 1, 1);
        n.add(1, 0, 1);
        n.build();
        n.add(1, 1, 1);
        DUE.same("3: one too many", n.build(), RowSparse.NONE);
        n.add(0, 0, -1);
        DUE.same("3: only the end counts, not the way", n.build(), 3);
        dueRow("3: what was pending came in", n, 0, 0, 1);
        dueRow("3: what was pending came in", n, 1, 1, 1);
    }

    private static void promise4Nnz() {
        RowSparse m = sample();
        DUE.same("4: nnz", m.nnz(), 4);
        m.add(1, 1, 3);
        DUE.same("4: pending doesn't count", m.nnz(), 4);
        m.build();
        DUE.same("4: after build", m.nnz(), 5);
        m.add(1, 1, -3);
        m.add(0, 1, -5);
        m.build();
        DUE.same("4: what became 0 is gone", m.nnz(), 3);
        m.add(0, 0, 0);
        m.build();
        DUE.same("4: a 0 is no place", m.nnz(), 3);
    }

    private static void promise5At() {
        RowSparse m = sample();
        dueSample("5", m);
        DUE.same("5: at(-1, 0)", m.at(-1, 0), 0);
        DUE.same("5: at(0, -1)", m.at(0, -1), 0);
        DUE.same("5: at(3, 0)", m.at(3, 0), 0);
        DUE.same("5: at(0, 4)", m.at(0, 4), 0);
        DUE.same("5: at(1, 4) isn't the next row's", m.at(1, 4), 0);
        DUE.same("5: at(MIN, MAX)", m.at(MIN, MAX), 0);
        DUE.same("5: at(MAX, MIN)", m.at(MAX, MIN), 0);
    }

    private static void promise6RowStart() {
        RowSparse m = sample();
        DUE.same("6: rowStart(0)", m.rowStart(0), 0);
        DUE.same("6: rowStart(1)", m.rowStart(1), 2);
        DUE.same("6: rowStart(2)", m.rowStart(2), 2);
        DUE.same("6: rowStart(3)", m.rowStart(3), 4);
        DUE.same("6: rowStart(4)", m.rowStart(4), RowSparse.NONE);
        DUE.same("6: rowStart(-1)", m.rowStart(-1), RowSparse.NONE);
        DUE.same("6: rowStart(MIN)", m.rowStart(MIN), RowSparse.NONE);
        DUE.same("6: rowStart(MAX)", m.rowStart(MAX), RowSparse.NONE);
        m.add(1, 0, 1);
        DUE.same("6: pending doesn't count", m.rowStart(2), 2);
        m.build();
        DUE.same("6: after build", m.rowStart(2), 3);
    }

    private static void promise7ColAt() {
        RowSparse m = sample();
        DUE.same("7: colAt(0)", m.colAt(0), 1);
        DUE.same("7: colAt(1)", m.colAt(1), 3);
        DUE.same("7: colAt(2)", m.colAt(2), 0);
        DUE.same("7: colAt(3)", m.colAt(3), 3);
        DUE.same("7: colAt(4), within cap", m.colAt(4), RowSparse.NONE);
        DUE.same("7: colAt(6), beyond cap", m.colAt(6), RowSparse.NONE);
        DUE.same("7: colAt(-1)", m.colAt(-1), RowSparse.NONE);
        DUE.same("7: colAt(MIN)", m.colAt(MIN), RowSparse.NONE);
        DUE.same("7: colAt(MAX)", m.colAt(MAX), RowSparse.NONE);
        m.add(2, 3, -1);
        m.build();
        DUE.same("7: a place that is gone", m.colAt(3), RowSparse.NONE);
    }

    private static void promise8SetX() {
        RowSparse m = sample();
        DUE.yes("8: setX(0, 1)", m.setX(0, 1));
        DUE.yes("8: setX(3, 10)", m.setX(3, 10));
        DUE.no("8: setX(4, 9)", m.setX(4, 9));
        DUE.no("8: setX(-1, 9)", m.setX(-1, 9));
        DUE.no("8: setX(MIN, 9)", m.setX(MIN, 9));
        DUE.no("8: setX(MAX, 9)", m.setX(MAX, 9));
        dueY("8: y waits for multiplyVector", m, 0, 0, 0);
        m.multiplyVector();
        dueY("8: multiplied", m, -20, 0, 17);
        m.setX(3, 2);
        m.multiplyVector();
        dueY("8: set anew, not added", m, -4, 0, 9);

        RowSparse tall = new RowSparse(3, 1, 1);
        DUE.yes("8: tall setX(0, 1)", tall.setX(0, 1));
        DUE.no("8: tall setX(1, 1), a row but no column", tall.setX(1, 1));
    }

    private static void promise9MultiplyVector() {
        RowSparse m = sample();
        m.setX(0, 1);
        m.setX(1, 2);
        m.setX(2, 3);
        m.setX(3, 4);
        DUE.yes("9: multiplyVector", m.multiplyVector());
        dueY("9: product", m, 2, 0, 11);
        DUE.yes("9: again", m.multiplyVector());
        dueY("9: again, not added up", m, 2, 0, 11);
        m.add(0, 0, 100);
        m.multiplyVector();
        dueY("9: pending isn't multiplied", m, 2, 0, 11);
        m.build();
        dueY("9: build leaves y", m, 2, 0, 11);
        m.multiplyVector();
        dueY("9: x stayed", m, 102, 0, 11);
        m.setX(0, MIN);
        m.setX(3, MAX);
        m.multiplyVector();
        dueY("9: goes round", m, 100 * MIN + 10 - 2 * MAX, 0, 7 * MIN + MAX);
    }

    private static void promise10Y() {
        RowSparse m = sample();
        m.setX(0, 1);
        m.multiplyVector();
        dueY("10", m, 0, 0, 7);
        DUE.same("10: y(3), a column but no row", m.y(3), 0);
        DUE.same("10: y(4)", m.y(4), 0);
        DUE.same("10: y(-1)", m.y(-1), 0);
        DUE.same("10: y(MIN)", m.y(MIN), 0);
        DUE.same("10: y(MAX)", m.y(MAX), 0);
    }

    private static void promise11Transpose() {
        RowSparse m = sample();
        for (int j = 0; j < 4; j++) {
            m.setX(j, 1);
        }
        m.multiplyVector();
        DUE.yes("11: transpose", m.transpose());
        dueSizes(m, 4, 3, 6);
        dueRow("11", m, 0, 0, 0, 7, 0);
        dueRow("11", m, 1, 5, 0, 0);
        dueRow("11", m, 2, 0, 0, 0);
        dueRow("11", m, 3, -2, 0, 1);
        DUE.same("11: nnz", m.nnz(), 4);
        int[] starts = {0, 1, 2, 2, 4, RowSparse.NONE};
        int[] columns = {2, 0, 0, 2, RowSparse.NONE};
        for (int i = 0; i < starts.length; i++) {
            DUE.same("11: rowStart(" + i + ")", m.rowStart(i), starts[i]);
        }
        for (int k = 0; k < columns.length; k++) {
            DUE.same("11: colAt(" + k + ")", m.colAt(k), columns[k]);
        }
        dueY("11: y is 0", m, 0, 0, 0, 0);
        m.multiplyVector();
        dueY("11: x is 0", m, 0, 0, 0, 0);
        DUE.yes("11: setX(2, 1)", m.setX(2, 1));
        DUE.no("11: setX(3, 1)", m.setX(3, 1));
        m.multiplyVector();
        dueY("11: multiplied", m, 7, 0, 0, 1, 0);
        DUE.yes("11: add in the new last row", m.add(3, 2, 0));
        DUE.no("11: add in the old last column", m.add(0, 3, 1));
        m.build();
        DUE.yes("11: turned back", m.transpose());
        dueSizes(m, 3, 4, 6);
        dueSample("11: turned back", m);

        RowSparse empty = new RowSparse(1, 60, 1);
        DUE.yes("11: empty", empty.transpose());
        dueSizes(empty, 60, 1, 1);
        DUE.same("11: empty rowStart(60)", empty.rowStart(60), 0);
        DUE.yes("11: add(59, 0, 1)", empty.add(59, 0, 1));
        DUE.same("11: build", empty.build(), 1);
    }

    private static void promise11TransposeRefused() {
        RowSparse m = sample();
        m.setX(0, 1);
        m.multiplyVector();
        m.add(1, 1, 0);
        DUE.no("11: something is pending", m.transpose());
        dueSizes(m, 3, 4, 6);
        dueSample("11: refused", m);
        dueY("11: refused", m, 0, 0, 7);
        DUE.same("11: refused, pending", m.count(3), 1);
        m.multiplyVector();
        dueY("11: refused, x", m, 0, 0, 7);
        m.build();
        DUE.yes("11: after build", m.transpose());
    }

    /** {1 2 0} {0 0 3} {5 0 0}, whose square {1 2 6} {15 0 0} {5 10 0} has six places. */
    private static RowSparse squareSample(int cap) {
        RowSparse m = new RowSparse(3, 3, cap);
        m.add(2, 0, 5);
        m.add(0, 1, 2);
        m.add(1, 2, 3);
        m.add(0, 0, 1);
        m.build();
        m.setX(0, 1);
        m.setX(1, 10);
        m.multiplyVector();
        return m;
    }

    private static void promise12Square() {
        RowSparse m = squareSample(6);
        m.add(1, 1, 50);
        DUE.same("12: square, exactly cap", m.square(), 6);
        dueRow("12", m, 0, 1, 2, 6);
        dueRow("12", m, 1, 15, 0, 0);
        dueRow("12", m, 2, 5, 10, 0);
        DUE.same("12: nnz", m.nnz(), 6);
        DUE.same("12: rowStart(1)", m.rowStart(1), 3);
        DUE.same("12: rowStart(2)", m.rowStart(2), 4);
        DUE.same("12: colAt(5)", m.colAt(5), 1);
        dueY("12: y stays", m, 21, 0, 5);
        m.multiplyVector();
        dueY("12: x stays", m, 21, 15, 105);
        DUE.same("12: pending stays", m.count(3), 1);
        m.add(2, 1, -10);
        DUE.same("12: build after square", m.build(), 6);
        dueRow("12: what was pending came in", m, 1, 15, 50, 0);

        RowSparse zero = new RowSparse(2, 2, 2);
        DUE.same("12: square of 0", zero.square(), 0);
        zero.add(0, 0, 65536);
        zero.add(1, 1, 65537);
        zero.build();
        DUE.same("12: a product that goes round to 0 is no place", zero.square(), 1);
        dueRow("12: goes round", zero, 0, 0, 0);
        dueRow("12: goes round", zero, 1, 0, 131073);

        RowSparse cancel = new RowSparse(2, 2, 4);
        cancel.add(0, 0, 1);
        cancel.add(0, 1, 1);
        cancel.add(1, 0, -1);
        cancel.add(1, 1, -1);
        cancel.build();
        DUE.same("12: products that cancel out", cancel.square(), 0);
    }

    private static void promise12SquareRefused() {
        RowSparse m = squareSample(5);
        m.add(1, 1, 50);
        DUE.same("12: more than cap", m.square(), RowSparse.NONE);
        dueRow("12: refused", m, 0, 1, 2, 0);
        dueRow("12: refused", m, 1, 0, 0, 3);
        dueRow("12: refused", m, 2, 5, 0, 0);
        DUE.same("12: refused, nnz", m.nnz(), 4);
        DUE.same("12: refused, rowStart(1)", m.rowStart(1), 2);
        DUE.same("12: refused, colAt(2)", m.colAt(2), 2);
        DUE.same("12: refused, pending", m.count(3), 1);
        dueY("12: refused", m, 21, 0, 5);

        RowSparse wide = sample();
        wide.setX(0, 1);
        wide.multiplyVector();
        DUE.same("12: wide", wide.square(), RowSparse.NOTSQUARE);
        dueSample("12: wide", wide);
        dueY("12: wide", wide, 0, 0, 7);
        wide.transpose();
        DUE.same("12: tall", wide.square(), RowSparse.NOTSQUARE);
        DUE.same("12: empty but not square", new RowSparse(1, 2, 1).square(), RowSparse.NOTSQUARE);
        DUE.same("12: square after the limits", new RowSparse(61, 99, 1).square(), 0);
    }

    private static void promise13Count() {
        RowSparse m = sample();
        DUE.same("13: count(0)", m.count(0), 3);
        DUE.same("13: count(1)", m.count(1), 4);
        DUE.same("13: count(2)", m.count(2), 6);
        DUE.same("13: count(3)", m.count(3), 0);
        m.add(0, 0, 1);
        DUE.same("13: count(3) after add", m.count(3), 1);
        DUE.same("13: count(4)", m.count(4), RowSparse.NONE);
        DUE.same("13: count(-1)", m.count(-1), RowSparse.NONE);
        DUE.same("13: count(MIN)", m.count(MIN), RowSparse.NONE);
        DUE.same("13: count(MAX)", m.count(MAX), RowSparse.NONE);
    }

    private static void largestObject() {
        DUE.same("largest: square beyond cap", Given.hook(999).square(), RowSparse.NONE);
        RowSparse m = Given.hook(1000);
        DUE.same("largest: build", m.nnz(), 64);
        DUE.same("largest: square up to cap", m.square(), 1000);
        DUE.same("largest: colAt(999)", m.colAt(999), 39);
        DUE.same("largest: colAt(1000)", m.colAt(1000), RowSparse.NONE);
        DUE.same("largest: rowStart(60)", m.rowStart(60), 1000);
        DUE.same("largest: at(0, 0)", m.at(0, 0), 25);
        DUE.same("largest: at(24, 39)", m.at(24, 39), 1);
        m.add(59, 59, 1);
        DUE.same("largest: build beyond cap", m.build(), RowSparse.NONE);
        m.add(0, 0, -25);
        DUE.same("largest: build up to cap", m.build(), 1000);
        DUE.yes("largest: transpose", m.transpose());
        DUE.same("largest: turned, rowStart(1)", m.rowStart(1), 24);
        DUE.same("largest: turned, rowStart(40)", m.rowStart(40), 999);
        DUE.same("largest: turned, colAt(999)", m.colAt(999), 59);
    }
}
