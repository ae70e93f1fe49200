/** The example of README.md, call by call; whoever changes one changes the other. */
public final class ReadmeTest {
    public static void main(String[] args) {
        Due due = new Due();
        RowSparse m = new RowSparse(2, 2, 10);
        due.yes("add(0, 1, 5)", m.add(0, 1, 5));
        due.yes("add(1, 0, -3)", m.add(1, 0, -3));
        due.same("count(3)", m.count(3), 2);
        due.same("build()", m.build(), 2);
        due.same("at(0, 1)", m.at(0, 1), 5);
        due.same("rowStart(1)", m.rowStart(1), 1);
        due.same("colAt(0)", m.colAt(0), 1);
        due.yes("setX(1, 4)", m.setX(1, 4));
        due.yes("multiplyVector()", m.multiplyVector());
        due.same("y(0)", m.y(0), 20);
        due.same("square()", m.square(), 2);
        due.matrix("the square", m, Given.row(-15, 0), Given.row(0, -15));
        due.yes("transpose()", m.transpose());
        due.product("y is 0 again", m, 0, 0);
        m.multiplyVector();
        due.product("x is 0 again", m, 0, 0);
        due.end();
    }
}
