import java.lang.reflect.Constructor;
import java.lang.reflect.Field;
import java.lang.reflect.Member;
import java.lang.reflect.Method;
import java.lang.reflect.Modifier;
import java.util.Arrays;
import java.util.HashSet;
import java.util.Set;
import java.util.TreeSet;

/** The public face, to the letter, and rule 1 of the language. */
public final class FaceTest {
    private static final String[] FACE = {
        "feed(int,int,int,int,int)", "fill(int,int)", "again(int,int)", "cut(int)", "set(int,int)", "take()", "tape(int)",
        "press()", "open()", "stream(int)", "unstream()", "fault(int)", "element(int,int)", "chunk(int,int)",
        "sum(int,int,boolean)", "out(int)", "about(int)"
    };

    public static void main(String[] args) throws Exception {
        theClass();
        theMethods();
        theFields();
        theClassesInside();
        Due.end("FaceTest");
    }

    private static void theClass() {
        int is = SnapHouse.class.getModifiers();
        Due.holds("public and final", Modifier.isPublic(is) && Modifier.isFinal(is));
        Due.holds("without a package", SnapHouse.class.getPackageName().isEmpty());
        Constructor<?>[] made = SnapHouse.class.getDeclaredConstructors();
        Due.is("constructors", made.length, 1);
        Due.holds("public, without arguments", Modifier.isPublic(made[0].getModifiers()) && made[0].getParameterCount() == 0);
    }

    private static void theMethods() {
        Set<String> seen = new TreeSet<>();
        Set<String> names = new HashSet<>();
        for (Method m : SnapHouse.class.getDeclaredMethods()) {
            if (Modifier.isPublic(m.getModifiers())) {
                String text = m.toString();
                seen.add(text.substring(text.indexOf("SnapHouse.") + 10).split(" ")[0]);
                names.add(m.getName());
                Due.holds(m + " is an int of an object", m.getReturnType() == int.class && !Modifier.isStatic(m.getModifiers()));
                String thrown = m.getName().equals("out") ? "[class java.util.NoSuchElementException]" : "[]";
                Due.holds(m + " declares what it throws", Arrays.toString(m.getExceptionTypes()).equals(thrown));
            }
        }
        Due.holds("the methods are those of the face: " + seen, seen.equals(new TreeSet<>(Arrays.asList(FACE))));
        for (Method m : SnapHouse.class.getDeclaredMethods()) {
            if (!Modifier.isPublic(m.getModifiers())) {
                Due.holds(m + " is private with a name of its own", isPrivate(m) && !names.contains(m.getName()));
            }
        }
    }

    private static boolean isPrivate(Member m) {
        return Modifier.isPrivate(m.getModifiers());
    }

    private static void theFields() throws Exception {
        Due.is("NONE", SnapHouse.class.getField("NONE").getInt(null), -1);
        for (Field f : SnapHouse.class.getDeclaredFields()) {
            if (f.getName().equals("NONE")) {
                Due.is("NONE is public static final", f.getModifiers(), Modifier.PUBLIC | Modifier.STATIC | Modifier.FINAL);
            } else {
                Due.holds(f + " is private", isPrivate(f));
            }
            Due.holds(f + " is no static state", !Modifier.isStatic(f.getModifiers()) || Modifier.isFinal(f.getModifiers()));
        }
    }

    private static void theClassesInside() {
        for (Class<?> inside : SnapHouse.class.getDeclaredClasses()) {
            int is = inside.getModifiers();
            Due.holds(inside + " is static", Modifier.isStatic(is));
            Due.holds(inside + " is not seen", !Modifier.isPublic(is) && !Modifier.isProtected(is));
        }
    }
}
