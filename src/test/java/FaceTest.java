import java.lang.reflect.Constructor;
import java.lang.reflect.Field;
import java.lang.reflect.Method;
import java.lang.reflect.Modifier;
import java.util.Set;
import java.util.TreeSet;

/** The public face: just the constants, the constructor and the methods of the document. */
public final class FaceTest {
    private static final Due due = new Due();

    private static final String[] METHODS = {
        "int enter(int)", "int prepare(int, int, int)", "int postpone(int)", "int recall()", "int pass(int)",
        "int line(int)", "int buoy(int, int)", "int retire(int)", "int close()", "int hail(int, int)",
        "int file(int)", "int accept(int)", "int decide(int, boolean)", "int set(int, int)", "int append(int)",
        "int clearText()", "int fault()", "int run()", "int undo()", "int save()", "int restore()",
        "int result(int, int, int)", "int boat(int, int)", "int ranked(int)", "int race(int, int)",
        "int protest(int, int)", "int count(int)", "int placeNow(int)", "int secondsLeft(int)",
        "int rankIfDisqualified(int, int)", "float mean(int)"};
    private static final String[] CONSTANTS = {"NO_SUCH", "BAD_VALUE", "TOO_MANY", "NOT_POSSIBLE", "NONE",
        "FILE", "PENALTY", "DISCARD"};

    public static void main(String[] args) {
        int modifiers = RegattaTimes.class.getModifiers();
        due.holds("the class is public and final", Modifier.isPublic(modifiers) && Modifier.isFinal(modifiers));
        methods();
        constants();
        constructors();
        due.end();
    }

    private static void methods() {
        Set<String> faces = new TreeSet<>();
        Set<String> names = new TreeSet<>();
        for (Method method : RegattaTimes.class.getDeclaredMethods()) {
            if (!Modifier.isPrivate(method.getModifiers())) {
                due.holds(method + " is public and no more", method.getModifiers() == Modifier.PUBLIC);
                faces.add(face(method));
                names.add(method.getName());
            }
        }
        due.holds("the methods are those of the document: " + faces, faces.equals(Set.of(METHODS)));
        privateNames(RegattaTimes.class, names);
        for (Class<?> inside : RegattaTimes.class.getDeclaredClasses()) {
            due.holds(inside + " is static", Modifier.isStatic(inside.getModifiers()));
            privateNames(inside, names);
        }
    }

    private static String face(Method method) {
        StringBuilder types = new StringBuilder();
        for (Class<?> type : method.getParameterTypes()) {
            types.append(types.length() == 0 ? "" : ", ").append(type.getName());
        }
        return method.getReturnType().getName() + " " + method.getName() + "(" + types + ")";
    }

    private static void privateNames(Class<?> of, Set<String> names) {
        for (Method method : of.getDeclaredMethods()) {
            due.holds(of + ": no method of its own is called " + method.getName(),
                    Modifier.isPublic(method.getModifiers()) || !names.contains(method.getName()));
        }
    }

    private static void constants() {
        Set<String> found = new TreeSet<>();
        for (Field field : RegattaTimes.class.getDeclaredFields()) {
            if (!Modifier.isPrivate(field.getModifiers())) {
                due.holds(field + " is a constant", field.getType() == int.class
                        && field.getModifiers() == (Modifier.PUBLIC | Modifier.STATIC | Modifier.FINAL));
                found.add(field.getName());
            }
        }
        due.holds("the constants are those of the document: " + found, found.equals(Set.of(CONSTANTS)));
        due.is("NO_SUCH", RegattaTimes.NO_SUCH, -1);
        due.is("BAD_VALUE", RegattaTimes.BAD_VALUE, -2);
        due.is("TOO_MANY", RegattaTimes.TOO_MANY, -3);
        due.is("NOT_POSSIBLE", RegattaTimes.NOT_POSSIBLE, -4);
        due.is("NONE", RegattaTimes.NONE, -5);
        due.is("FILE", RegattaTimes.FILE, 0);
        due.is("PENALTY", RegattaTimes.PENALTY, 1);
        due.is("DISCARD", RegattaTimes.DISCARD, 2);
    }

    private static void constructors() {
        Constructor<?>[] all = RegattaTimes.class.getDeclaredConstructors();
        due.holds("one public constructor without parameters",
                all.length == 1 && all[0].getParameterCount() == 0 && all[0].getModifiers() == Modifier.PUBLIC);
    }
}
