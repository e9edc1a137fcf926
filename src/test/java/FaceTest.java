import java.lang.reflect.Constructor;
import java.lang.reflect.Field;
import java.lang.reflect.Method;
import java.lang.reflect.Modifier;
import java.util.Set;
import java.util.TreeSet;

/** The public face: the document's members, and no other that is not private. */
public final class FaceTest {
    private static final Class<?> FACE = PageFormatter.class;

    public static void main(String[] args) {
        theClass();
        constants();
        constructor();
        methods();
        nestedClasses();
        namesOfPrivateMethods();
        Check.end();
    }

    private static void theClass() {
        Check.sentence("public final class PageFormatter {");
        Check.same("modifiers", Modifier.toString(FACE.getModifiers()), "public final");
        Check.same("package", FACE.getPackageName(), "");
        Check.same("class above it", FACE.getSuperclass().getName(), "java.lang.Object");
        Check.same("interfaces", FACE.getInterfaces().length, 0);
    }

    private static void constants() {
        Check.sentence("public static final int NONE = -1, BAD = -2, FULL = -3;");
        Check.same("NONE", PageFormatter.NONE, -1);
        Check.same("BAD", PageFormatter.BAD, -2);
        Check.same("FULL", PageFormatter.FULL, -3);
        Set<String> open = new TreeSet<>();
        for (Field f : FACE.getDeclaredFields()) {
            if (!Modifier.isPrivate(f.getModifiers())) {
                open.add(f.toGenericString());
            }
        }
        Check.same("fields", open.toString(), "[public static final int PageFormatter.BAD,"
                + " public static final int PageFormatter.FULL, public static final int PageFormatter.NONE]");
    }

    private static void constructor() {
        Check.sentence("public PageFormatter();");
        Check.same("how many", FACE.getDeclaredConstructors().length, 1);
        for (Constructor<?> c : FACE.getDeclaredConstructors()) {
            Check.same("the constructor", c.toGenericString(), "public PageFormatter()");
        }
    }

    private static void methods() {
        Check.sentence("The public face");
        Set<String> open = new TreeSet<>();
        for (Method m : FACE.getDeclaredMethods()) {
            if (!Modifier.isPrivate(m.getModifiers())) {
                open.add(m.toGenericString().replace("PageFormatter.", ""));
            }
        }
        Check.same("methods", open.toString(), new TreeSet<>(Set.of("public int type(long,int)",
                "public int enter()", "public int finish()", "public int wipe()", "public int length()",
                "public int at(int)", "public long demerits()", "public int line(int,int)",
                "public int count(int)")).toString());
    }

    private static void nestedClasses() {
        Check.sentence("the classes inside it, which are private or package-visible and static");
        for (Class<?> inside : FACE.getDeclaredClasses()) {
            int modifiers = inside.getModifiers();
            boolean hidden = !Modifier.isPublic(modifiers) && !Modifier.isProtected(modifiers);
            Check.same(inside.getSimpleName(), hidden && Modifier.isStatic(modifiers) ? 1 : 0, 1);
        }
    }

    private static void namesOfPrivateMethods() {
        Check.sentence("No private method bears the name of a public one.");
        Set<String> open = new TreeSet<>();
        for (Method m : FACE.getMethods()) {
            open.add(m.getName());
        }
        for (Method m : FACE.getDeclaredMethods()) {
            if (Modifier.isPrivate(m.getModifiers())) {
                Check.same(m.getName(), open.contains(m.getName()) ? 1 : 0, 0);
            }
        }
        for (Class<?> inside : FACE.getDeclaredClasses()) {
            for (Method m : inside.getDeclaredMethods()) {
                Check.same(inside.getSimpleName() + "." + m.getName(), open.contains(m.getName()) ? 1 : 0, 0);
            }
        }
    }
}
