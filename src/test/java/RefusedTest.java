import java.util.function.Predicate;
import java.util.function.Supplier;

/**
 * "What is refused changes nothing.": of two objects that are made alike, one is told a call that
 * is refused, and then both answer all calls alike. What no call shows, x and the triplets that are
 * pending, comes to light in the calls that both are told afterwards.
 */
public final class RefusedTest {
    private static final int MIN = Integer.MIN_VALUE;
    private static final int MAX = Integer.MAX_VALUE;
    private static final int NONE = RowSparse.NONE;
    private static final int NOTSQUARE = RowSparse.NOTSQUARE;
    private static final Due DUE = new Due();

    public static void main(String[] args) {
        refusedAddOutside();
        refusedAddBeyondCap();
        refusedBuild();
        refusedSetX();
        refusedTranspose();
        refusedSquareNotAlike();
        refusedSquareBeyondCap();
        looksOutside();
        DUE.end();
    }

    /** {0 5 -2} {7 0 0}, cap 4; x and y aren't 0, and one triplet is pending. */
    private static RowSparse wide() {
        RowSparse m = Given.matrix(4, Given.row(0, 5, -2), Given.row(7, 0, 0));
        Given.x(m, 1, 10, 100);
        m.multiplyVector();
        Given.x(m, 2, 3, 4);
        m.add(1, 2, 6);
        return m;
    }

    private static RowSparse wideWithNothingPending() {
        RowSparse m = wide();
        m.build();
        return m;
    }

    private static RowSparse tall() {
        RowSparse m = wideWithNothingPending();
        m.transpose();
        Given.x(m, 3, -1);
        m.multiplyVector();
        Given.x(m, 9, 8);
        m.add(2, 0, 2);
        return m;
    }

    /** {1 1} {1 0}, cap 3: the support is full, and its square has four places. */
    private static RowSparse full() {
        RowSparse m = Given.matrix(3, Given.row(1, 1), Given.row(1, 0));
        Given.x(m, 10, 1);
        m.multiplyVector();
        Given.x(m, 20, 2);
        return m;
    }

    private static RowSparse fullWithOnePending() {
        RowSparse m = full();
        m.add(1, 1, 9);
        return m;
    }

    private static RowSparse fullWithCapPending() {
        RowSparse m = fullWithOnePending();
        m.add(1, 1, 1);
        m.add(0, 0, 4);
        return m;
    }

    /** As many are pending as may be, and they fit. */
    private static RowSparse capPending() {
        RowSparse m = wide();
        m.add(0, 0, 3);
        m.add(0, 1, -5);
        m.add(1, 2, 1);
        return m;
    }

    private static void refusedAddOutside() {
        for (int i : new int[] {-1, 2, 3, 60, MIN, MAX}) {
            changesNothing("add(" + i + ", 0, 5)", RefusedTest::wide, m -> !m.add(i, 0, 5));
        }
        for (int j : new int[] {-1, 3, 4, 60, MIN, MAX}) {
            changesNothing("add(0, " + j + ", 5)", RefusedTest::wide, m -> !m.add(0, j, 5));
        }
        changesNothing("add(3, 1, 5), tall", RefusedTest::tall, m -> !m.add(3, 1, 5));
        changesNothing("add(0, 2, 5), tall", RefusedTest::tall, m -> !m.add(0, 2, 5));
        changesNothing("add to a new object", () -> new RowSparse(2, 2, 2), m -> !m.add(2, 2, 5));
    }

    private static void refusedAddBeyondCap() {
        changesNothing("add beyond cap", RefusedTest::capPending, m -> !m.add(0, 2, 5));
        changesNothing("add of a 0 beyond cap", RefusedTest::capPending, m -> !m.add(0, 2, 0));
        changesNothing("add beyond cap, full", RefusedTest::fullWithCapPending, m -> !m.add(0, 1, 5));
    }

    private static void refusedBuild() {
        changesNothing("build", RefusedTest::fullWithOnePending, m -> m.build() == NONE);
        changesNothing("build, cap pending", RefusedTest::fullWithCapPending, m -> m.build() == NONE);
    }

    private static void refusedSetX() {
        for (int j : new int[] {-1, 3, 4, 60, MIN, MAX}) {
            changesNothing("setX(" + j + ", 5)", RefusedTest::wide, m -> !m.setX(j, 5));
        }
        changesNothing("setX(2, 5), tall", RefusedTest::tall, m -> !m.setX(2, 5));
        changesNothing("setX(2, 5), full", RefusedTest::full, m -> !m.setX(2, 5));
    }

    private static void refusedTranspose() {
        changesNothing("transpose, wide", RefusedTest::wide, m -> !m.transpose());
        changesNothing("transpose, tall", RefusedTest::tall, m -> !m.transpose());
        changesNothing("transpose, cap pending", RefusedTest::capPending, m -> !m.transpose());
        changesNothing("transpose, full", RefusedTest::fullWithOnePending, m -> !m.transpose());
    }

    private static void refusedSquareNotAlike() {
        changesNothing("square, wide", RefusedTest::wide, m -> m.square() == NOTSQUARE);
        changesNothing("square, tall", RefusedTest::tall, m -> m.square() == NOTSQUARE);
        changesNothing("square, none pending", RefusedTest::wideWithNothingPending, m -> m.square() == NOTSQUARE);
        changesNothing("square, cap pending", RefusedTest::capPending, m -> m.square() == NOTSQUARE);
    }

    private static void refusedSquareBeyondCap() {
        changesNothing("square, full", RefusedTest::full, m -> m.square() == NONE);
        changesNothing("square, one pending", RefusedTest::fullWithOnePending, m -> m.square() == NONE);
        changesNothing("square, cap pending", RefusedTest::fullWithCapPending, m -> m.square() == NONE);
    }

    private static void looksOutside() {
        for (int n : new int[] {-1, 5, 60, MIN, MAX}) {
            changesNothing("at(" + n + ", 0)", RefusedTest::wide, m -> m.at(n, 0) == 0);
            changesNothing("at(0, " + n + ")", RefusedTest::wide, m -> m.at(0, n) == 0);
            changesNothing("rowStart(" + n + ")", RefusedTest::wide, m -> m.rowStart(n) == NONE);
            changesNothing("colAt(" + n + ")", RefusedTest::wide, m -> m.colAt(n) == NONE);
            changesNothing("y(" + n + ")", RefusedTest::wide, m -> m.y(n) == 0);
            changesNothing("count(" + n + ")", RefusedTest::wide, m -> m.count(n) == NONE);
        }
    }

    private static void changesNothing(String call, Supplier<RowSparse> make, Predicate<RowSparse> refused) {
        for (int times = 1; times <= 2; times++) {
            RowSparse told = make.get();
            RowSparse twin = make.get();
            for (int n = 0; n < times; n++) {
                DUE.yes(call + ": is refused", refused.test(told));
            }
            goOnAlike(call + ", " + times + " times", told, twin);
        }
    }

    /** Some 200 calls for each of the two, which stays below the 512 of an object. */
    private static void goOnAlike(String what, RowSparse told, RowSparse twin) {
        alike(what + ": at once", told, twin);
        told.multiplyVector();
        twin.multiplyVector();
        alike(what + ": multiplied", told, twin);
        if (twin.count(3) < twin.count(2)) {
            // Makes room in a full support, so that what is pending can be built and seen.
            DUE.yes(what + ": add", told.add(0, 1, -1));
            DUE.yes(what + ": add to the twin", twin.add(0, 1, -1));
        }
        int built = twin.build();
        DUE.same(what + ": build", told.build(), built);
        alike(what + ": built", told, twin);
        int squared = twin.square();
        DUE.same(what + ": square", told.square(), squared);
        boolean turned = twin.transpose();
        DUE.same(what + ": transpose", told.transpose() ? 1 : 0, turned ? 1 : 0);
        alike(what + ": in the end", told, twin);
    }

    private static void alike(String what, RowSparse told, RowSparse twin) {
        for (int n = 0; n < 4; n++) {
            DUE.same(what + ": count(" + n + ")", told.count(n), twin.count(n));
        }
        DUE.same(what + ": nnz()", told.nnz(), twin.nnz());
        for (int i = 0; i < 5; i++) {
            DUE.same(what + ": rowStart(" + i + ")", told.rowStart(i), twin.rowStart(i));
            DUE.same(what + ": colAt(" + i + ")", told.colAt(i), twin.colAt(i));
            DUE.same(what + ": y(" + i + ")", told.y(i), twin.y(i));
            for (int j = 0; j < 4; j++) {
                DUE.same(what + ": at(" + i + ", " + j + ")", told.at(i, j), twin.at(i, j));
            }
        }
    }
}
