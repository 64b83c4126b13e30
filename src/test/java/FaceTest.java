import java.lang.reflect.Constructor;
import java.lang.reflect.Field;
import java.lang.reflect.Method;
import java.lang.reflect.Modifier;
import java.util.TreeSet;

/** The public face: its constants, its constructor and its methods, and no other member that can be seen. */
public final class FaceTest {
    public static void main(String[] args) {
        Checks.due("DONE", GraphWriter.DONE, 0);
        Checks.due("REFUSED", GraphWriter.REFUSED, -1);
        Checks.due("FULL", GraphWriter.FULL, -2);
        Checks.due("ABORTED", GraphWriter.ABORTED, -3);
        Checks.due("the class's modifiers", Modifier.toString(GraphWriter.class.getModifiers()), "public final");
        fields();
        methods();
        for (Constructor<?> constructor : GraphWriter.class.getDeclaredConstructors()) {
            Checks.due("constructor", constructor.toString(), "public GraphWriter()");
        }
        Checks.end();
    }

    private static void fields() {
        TreeSet<String> seen = new TreeSet<>();
        for (Field field : GraphWriter.class.getDeclaredFields()) {
            if (!Modifier.isPrivate(field.getModifiers())) {
                seen.add(field.toString().replace("GraphWriter.", ""));
            }
        }
        Checks.due("fields", seen.toString(), "[public static final int ABORTED, public static final int DONE, "
            + "public static final int FULL, public static final int REFUSED]");
    }

    private static void methods() {
        TreeSet<String> seen = new TreeSet<>();
        TreeSet<String> hidden = new TreeSet<>();
        TreeSet<String> names = new TreeSet<>();
        for (Method method : GraphWriter.class.getDeclaredMethods()) {
            if (Modifier.isPrivate(method.getModifiers())) {
                hidden.add(method.getName());
            } else {
                seen.add(method.toString().replace("public int GraphWriter.", ""));
                names.add(method.getName());
            }
        }
        Checks.due("methods", seen.toString(), "[array(boolean,int), byteAt(int), constant(int,int), count(int), "
            + "data(long,int), define(int,int,int,long), extra(int,int), field(int,int,int,boolean), handle(int), "
            + "instance(int), object(int,int), replace(int,int), reset(), set(int,int,long), text(long), "
            + "write(int,boolean)]");
        hidden.retainAll(names);
        Checks.due("private methods with a public one's name", hidden.toString(), "[]");
    }
}
