import java.lang.reflect.Constructor;
import java.lang.reflect.Field;
import java.lang.reflect.Method;
import java.lang.reflect.Modifier;
import java.util.Set;
import java.util.TreeSet;

/** The public face is the document's, with nothing beside it. */
public final class FaceTest {
    private static final Set<String> FACE = Set.of(
            "public static final int RowSparse.NONE",
            "public static final int RowSparse.NOTSQUARE",
            "public RowSparse(int,int,int)",
            "public boolean RowSparse.add(int,int,int)",
            "public int RowSparse.build()",
            "public int RowSparse.nnz()",
            "public int RowSparse.at(int,int)",
            "public int RowSparse.rowStart(int)",
            "public int RowSparse.colAt(int)",
            "public boolean RowSparse.setX(int,int)",
            "public boolean RowSparse.multiplyVector()",
            "public int RowSparse.y(int)",
            "public boolean RowSparse.transpose()",
            "public int RowSparse.square()",
            "public int RowSparse.count(int)");

    public static void main(String[] args) {
        Due due = new Due();
        Set<String> seen = new TreeSet<>();
        for (Field f : RowSparse.class.getDeclaredFields()) {
            if (!Modifier.isPrivate(f.getModifiers())) {
                seen.add(f.toString());
            }
        }
        for (Constructor<?> c : RowSparse.class.getDeclaredConstructors()) {
            if (!Modifier.isPrivate(c.getModifiers())) {
                seen.add(c.toString());
            }
        }
        for (Method m : RowSparse.class.getDeclaredMethods()) {
            if (!Modifier.isPrivate(m.getModifiers())) {
                seen.add(m.toString());
            }
        }
        for (String member : FACE) {
            due.yes("the face has " + member, seen.contains(member));
        }
        for (String member : seen) {
            due.yes("the document has " + member, FACE.contains(member));
        }
        due.yes("the class is public", Modifier.isPublic(RowSparse.class.getModifiers()));
        due.yes("the class is final", Modifier.isFinal(RowSparse.class.getModifiers()));
        due.same("NONE", RowSparse.NONE, -1);
        due.same("NOTSQUARE", RowSparse.NOTSQUARE, -2);
        due.end();
    }
}
