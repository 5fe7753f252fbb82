import java.lang.reflect.Constructor;
import java.lang.reflect.Field;
import java.lang.reflect.Method;
import java.lang.reflect.Modifier;
import java.util.ArrayList;
import java.util.Arrays;
import java.util.List;
import java.util.TreeSet;

/** The public face of the document, and those rules of LANGUAGE.md that the compiled class shows. */
public final class FaceTest {
    private static final String[] METHODS = {
        "boolean kind(int, boolean, boolean)", "int method(int, int, boolean, boolean)",
        "int step(int, int, int, int, int)", "boolean limits(int, int)", "int fails(int)",
        "int call(int, int, int)", "int forget()", "int run(int)", "int tick(int)", "int restart()",
        "long ask(int, int)", "int grain(int, int)", "int request(int, int)", "int line(int)",
        "int count(int)"};
    private static final String[] CONSTANTS = {
        "int REFUSED", "int FULL", "int BUSY", "int BROKEN", "int CROWD", "int LATE", "int STOPPED",
        "long NOTHING"};

    /** The rule says: some twelve, and some twenty. */
    private static final int MOST_CLASSES = 13, MOST_FIELDS = 21;

    public static void main(String[] args) {
        Check check = new Check();
        constants(check);
        face(check);
        for (Class<?> each : classes()) {
            rules(check, each);
        }
        check.due("how many classes are few enough", classes().size() <= MOST_CLASSES, true);
        check.finish();
    }

    private static void constants(Check check) {
        check.due("REFUSED", GrainHost.REFUSED, -1);
        check.due("FULL", GrainHost.FULL, -2);
        check.due("BUSY", GrainHost.BUSY, -3);
        check.due("BROKEN", GrainHost.BROKEN, 101);
        check.due("CROWD", GrainHost.CROWD, 102);
        check.due("LATE", GrainHost.LATE, 103);
        check.due("STOPPED", GrainHost.STOPPED, 104);
        check.due("NOTHING", GrainHost.NOTHING, 1099511627776L);
    }

    private static void face(Check check) {
        int modifiers = GrainHost.class.getModifiers();
        check.due("public and final", Modifier.isPublic(modifiers) && Modifier.isFinal(modifiers), true);
        TreeSet<String> methods = new TreeSet<>();
        for (Method m : GrainHost.class.getDeclaredMethods()) {
            if (!Modifier.isPrivate(m.getModifiers())) {
                check.due(m + " is public, not static", m.getModifiers(), Modifier.PUBLIC);
                String types = Arrays.toString(m.getParameterTypes()).replace("[", "(").replace("]", ")");
                methods.add(m.getReturnType() + " " + m.getName() + types);
            }
        }
        same(check, "methods", methods, METHODS);
        TreeSet<String> fields = new TreeSet<>();
        for (Field f : GrainHost.class.getDeclaredFields()) {
            if (!Modifier.isPrivate(f.getModifiers())) {
                int due = Modifier.PUBLIC | Modifier.STATIC | Modifier.FINAL;
                check.due(f + " is a public constant", f.getModifiers(), due);
                fields.add(f.getType() + " " + f.getName());
            }
        }
        same(check, "constants", fields, CONSTANTS);
        Constructor<?>[] constructors = GrainHost.class.getDeclaredConstructors();
        check.due("constructors", constructors.length, 1);
        check.due("public", constructors[0].getModifiers(), Modifier.PUBLIC);
        check.due("without parameters", constructors[0].getParameterCount(), 0);
    }

    private static void same(Check check, String what, TreeSet<String> got, String[] want) {
        TreeSet<String> due = new TreeSet<>(Arrays.asList(want));
        if (!got.equals(due)) {
            System.out.println(what + " are " + got + ", due are " + due);
        }
        check.due(what + " are as due", got.equals(due), true);
    }

    private static List<Class<?>> classes() {
        List<Class<?>> all = new ArrayList<>();
        all.add(GrainHost.class);
        all.addAll(Arrays.asList(GrainHost.class.getDeclaredClasses()));
        return all;
    }

    private static void rules(Check check, Class<?> each) {
        if (each != GrainHost.class) {
            int modifiers = each.getModifiers();
            check.due(each + " is static", Modifier.isStatic(modifiers), true);
            check.due(each + " is not public", Modifier.isPublic(modifiers), false);
        }
        int fields = 0;
        for (Field f : each.getDeclaredFields()) {
            boolean isStatic = Modifier.isStatic(f.getModifiers());
            fields += isStatic ? 0 : 1;
            check.due(f + " is final if static", !isStatic || Modifier.isFinal(f.getModifiers()), true);
        }
        check.due(each + " has few fields", fields <= MOST_FIELDS, true);
        for (Method m : each.getDeclaredMethods()) {
            check.due(m + " takes at most seven", m.getParameterCount() <= 7, true);
            boolean isPrivate = Modifier.isPrivate(m.getModifiers());
            check.due(m + " is private and has a public one's name", isPrivate && isFaceName(m.getName()), false);
        }
    }

    private static boolean isFaceName(String name) {
        for (String method : METHODS) {
            if (method.contains(" " + name + "(")) {
                return true;
            }
        }
        return false;
    }
}
