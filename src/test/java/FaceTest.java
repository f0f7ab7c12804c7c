import java.lang.reflect.Constructor;
import java.lang.reflect.Field;
import java.lang.reflect.Method;
import java.lang.reflect.Modifier;
import java.util.Arrays;
import java.util.Set;
import java.util.TreeSet;

/** The public face, and rule 1 of the language: the class has exactly the document's members. */
public final class FaceTest {
    private static final Set<String> METHODS = new TreeSet<>(Arrays.asList(
            "insert(int,int,int)", "erase(int,int)", "deliver(int,int)", "length(int)",
            "shown(int,int)", "ordered(int,int)", "known(int)", "state(int,int)", "tray(int)",
            "waiting(int)", "message(int,int)", "made()", "about(int,int)", "depth(int)",
            "differ(int,int)"));
    private static final Set<String> CONSTANTS = new TreeSet<>(Arrays.asList("BAD", "FULL", "NONE"));

    public static void main(String[] args) {
        Check.test("The public face: class", FaceTest::classItself);
        Check.test("The public face: methods", FaceTest::methods);
        Check.test("The public face: constants", FaceTest::constants);
        Check.test("The public face: constructor", FaceTest::constructors);
        Check.test("The public face: classes inside", FaceTest::innerClasses);
        Check.end();
    }

    private static void classItself() {
        Check.due("modifiers", SideTreeText.class.getModifiers(), Modifier.PUBLIC | Modifier.FINAL);
        Check.due("superclass", SideTreeText.class.getSuperclass(), Object.class);
        Check.due("interfaces", SideTreeText.class.getInterfaces().length, 0);
        Check.due("package", SideTreeText.class.getPackageName(), "");
    }

    private static void methods() {
        Set<String> open = new TreeSet<>();
        for (Method m : SideTreeText.class.getDeclaredMethods()) {
            if (Modifier.isPrivate(m.getModifiers())) {
                Check.due("private name " + m.getName(), isFaceName(m.getName()), false);
            } else {
                open.add(m.getName() + parameters(m));
                Check.due("modifiers of " + m.getName(), m.getModifiers(), Modifier.PUBLIC);
                Check.due("type of " + m.getName(), m.getReturnType(), int.class);
            }
        }
        Check.due("methods", open, METHODS);
    }

    private static String parameters(Method m) {
        StringBuilder all = new StringBuilder("(");
        for (Class<?> type : m.getParameterTypes()) {
            all.append(all.length() > 1 ? "," : "").append(type.getName());
        }
        return all.append(')').toString();
    }

    private static boolean isFaceName(String name) {
        for (String method : METHODS) {
            if (method.startsWith(name + "(")) {
                return true;
            }
        }
        return false;
    }

    private static void constants() {
        Check.due("BAD", SideTreeText.BAD, -1);
        Check.due("FULL", SideTreeText.FULL, -2);
        Check.due("NONE", SideTreeText.NONE, -3);
        Set<String> open = new TreeSet<>();
        for (Field f : SideTreeText.class.getDeclaredFields()) {
            if (!Modifier.isPrivate(f.getModifiers())) {
                open.add(f.getName());
                Check.due("type of " + f.getName(), f.getType(), int.class);
            }
            if (Modifier.isStatic(f.getModifiers())) {
                Check.due("final " + f.getName(), Modifier.isFinal(f.getModifiers()), true);
            }
        }
        Check.due("constants", open, CONSTANTS);
    }

    private static void constructors() {
        Constructor<?>[] all = SideTreeText.class.getDeclaredConstructors();
        Check.due("constructors", all.length, 1);
        Check.due("its parameters", all[0].getParameterCount(), 0);
        Check.due("its modifiers", all[0].getModifiers(), Modifier.PUBLIC);
    }

    private static void innerClasses() {
        for (Class<?> c : SideTreeText.class.getDeclaredClasses()) {
            int m = c.getModifiers();
            Check.due("static " + c.getName(), Modifier.isStatic(m), true);
            Check.due("open " + c.getName(), Modifier.isPublic(m) || Modifier.isProtected(m), false);
            for (Method method : c.getDeclaredMethods()) {
                Check.due("inner name " + method.getName(), isFaceName(method.getName()), false);
            }
        }
    }
}
