import java.lang.reflect.Field;
import java.lang.reflect.Method;
import java.lang.reflect.Modifier;
import java.util.Arrays;
import java.util.Set;
import java.util.TreeSet;

/** The public face: the document's members, and no other that is not private. */
public final class FaceTest {
    public static void main(String[] args) {
        Check.same("final", Modifier.isFinal(PageFormatter.class.getModifiers()) ? 1 : 0, 1);
        Check.same("NONE", PageFormatter.NONE, -1);
        Check.same("BAD", PageFormatter.BAD, -2);
        Check.same("FULL", PageFormatter.FULL, -3);
        Set<String> methods = new TreeSet<>();
        for (Method m : PageFormatter.class.getDeclaredMethods()) {
            if (!Modifier.isPrivate(m.getModifiers())) {
                methods.add(m.getReturnType() + " " + m.getName() + Arrays.toString(m.getParameterTypes()));
            }
        }
        Check.same("methods", methods.toString(), new TreeSet<>(Set.of("int type[long, int]", "int enter[]",
                "int finish[]", "int wipe[]", "int length[]", "int at[int]", "long demerits[]",
                "int line[int, int]", "int count[int]")).toString());
        Set<String> fields = new TreeSet<>();
        for (Field f : PageFormatter.class.getDeclaredFields()) {
            if (!Modifier.isPrivate(f.getModifiers())) {
                fields.add(f.getName());
            }
        }
        Check.same("fields", fields.toString(), "[BAD, FULL, NONE]");
        Check.end();
    }
}
