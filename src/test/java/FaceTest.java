import java.lang.reflect.Constructor;
import java.lang.reflect.Field;
import java.lang.reflect.Method;
import java.lang.reflect.Modifier;
import java.util.Set;
import java.util.TreeSet;

/** The public face: what the document lists, and no other member that is not private. */
public final class FaceTest {
    private static final Set<String> METHODS = new TreeSet<>(Set.of(
            "int event(int,long,long,long)", "int counts(int)", "int events()", "int refused()",
            "int state(int,int,long)", "int heading(int,int)", "int question(int,int)", "int hit(int)",
            "long due(int)", "int queue(int,int)", "int poll(int)", "int kept(int,int,long,int)",
            "int most(int)", "int least()"));

    public static void main(String[] args) {
        Check check = new Check();
        check.due("NONE", PlainLibrary.NONE, -1);
        check.due("NOT_TRIED", PlainLibrary.NOT_TRIED, -9);
        int modifiers = PlainLibrary.class.getModifiers();
        check.holds("the class is public and final", Modifier.isPublic(modifiers) && Modifier.isFinal(modifiers));
        check.holds("the methods of the face", methods().equals(METHODS));
        check.holds("no private method bears a public name", noNameIsShared());
        check.holds("the constants of the face", constants().equals(new TreeSet<>(Set.of("NONE", "NOT_TRIED"))));
        Constructor<?>[] constructors = PlainLibrary.class.getDeclaredConstructors();
        check.holds("one public constructor without arguments", constructors.length == 1
                && Modifier.isPublic(constructors[0].getModifiers()) && constructors[0].getParameterCount() == 0);
        check.holds("the classes inside are static and not public", classesInsideAreHidden());
        check.end();
    }

    private static boolean classesInsideAreHidden() {
        for (Class<?> inner : PlainLibrary.class.getDeclaredClasses()) {
            int modifiers = inner.getModifiers();
            if (!Modifier.isStatic(modifiers) || Modifier.isPublic(modifiers) || Modifier.isProtected(modifiers)) {
                return false;
            }
        }
        return true;
    }

    private static Set<String> methods() {
        Set<String> found = new TreeSet<>();
        for (Method m : PlainLibrary.class.getDeclaredMethods()) {
            // This test shares the class's package, so a method that lost its 'public' would be called all the same.
            if (!Modifier.isPrivate(m.getModifiers())) {
                StringBuilder text = new StringBuilder();
                for (Class<?> type : m.getParameterTypes()) {
                    text.append(text.length() == 0 ? "" : ",").append(type.getName());
                }
                String before = m.getModifiers() == Modifier.PUBLIC ? "" : "not public alone: ";
                found.add(before + m.getReturnType().getName() + " " + m.getName() + "(" + text + ")");
            }
        }
        return found;
    }

    private static boolean noNameIsShared() {
        Set<String> faces = new TreeSet<>();
        for (String method : METHODS) {
            faces.add(method.substring(method.indexOf(' ') + 1, method.indexOf('(')));
        }
        for (Class<?> inner : PlainLibrary.class.getDeclaredClasses()) {
            for (Method m : inner.getDeclaredMethods()) {
                if (faces.contains(m.getName())) {
                    return false;
                }
            }
        }
        for (Method m : PlainLibrary.class.getDeclaredMethods()) {
            if (Modifier.isPrivate(m.getModifiers()) && faces.contains(m.getName())) {
                return false;
            }
        }
        return true;
    }

    private static Set<String> constants() {
        Set<String> found = new TreeSet<>();
        for (Field f : PlainLibrary.class.getDeclaredFields()) {
            if (!Modifier.isPrivate(f.getModifiers())) {
                boolean constant = Modifier.isPublic(f.getModifiers()) && Modifier.isStatic(f.getModifiers())
                        && Modifier.isFinal(f.getModifiers()) && f.getType() == int.class;
                found.add(constant ? f.getName() : "not a constant: " + f.getName());
            }
        }
        return found;
    }
}
