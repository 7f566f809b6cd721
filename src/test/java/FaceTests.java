import java.lang.reflect.Constructor;
import java.lang.reflect.Field;
import java.lang.reflect.Method;
import java.lang.reflect.Modifier;
import java.util.ArrayList;
import java.util.Arrays;
import java.util.HashSet;
import java.util.List;
import java.util.Set;
import java.util.TreeSet;

/** The class shows the face of the document, and nothing else; it keeps no state but inside its objects. */
public final class FaceTests {
    private static final String RANGE = " throws java.lang.IndexOutOfBoundsException";
    private static final String BOTH = RANGE + ",java.lang.IllegalArgumentException";

    private static final String[] FACE = {
        "int fill(int,int,int,int,int)" + BOTH, "int add(int,int)" + BOTH, "int put(int,int,int)" + BOTH,
        "int drop(int,int)" + RANGE, "int clear(int)" + RANGE, "int exchange(int,int)" + RANGE,
        "int swap(int,int,int)" + RANGE, "int turn(int)" + RANGE, "int roll(int,int)" + BOTH,
        "int keep(int,int,int)" + RANGE, "int sort(int)" + RANGE, "int copy(int,int)" + RANGE,
        "int join(int,int)" + RANGE, "int merge(int,int)" + RANGE, "int many(int)" + RANGE, "int key(int,int)" + RANGE,
        "int stamp(int,int)" + RANGE, "int rank(int,int)" + RANGE, "int would(int,int)" + RANGE,
        "int wouldStamp(int,int)" + RANGE, "int wrongAt(int,int)" + RANGE, "int after(int,int)" + RANGE,
        "int runAt(int,int)" + RANGE, "java.lang.String text(int,int,int)" + BOTH, "boolean isSorted(int)" + RANGE,
        "boolean isFalling(int)" + RANGE, "boolean isKept(int)" + RANGE, "int wrong(int,int)" + BOTH,
        "int right(int)" + RANGE, "int ties(int)" + RANGE, "int runs(int)" + RANGE, "int longest(int)" + RANGE,
        "int count(int,int)" + BOTH, "int below(int,int)" + BOTH, "int first(int,int,boolean)" + BOTH,
        "int end(int,boolean)" + RANGE, "int unlike(int)" + RANGE, "int most(int)" + RANGE, "int sum(int)" + RANGE,
        "boolean same(int,int)" + RANGE, "boolean bag(int,int)" + RANGE, "int mark(int,boolean)" + RANGE,
        "int house(int) throws java.lang.IllegalArgumentException", "int knock()", "boolean isSound()",
        "long digest()"};

    private static final List<String> faults = new ArrayList<>();

    private static void due(String what, Object got, Object want) {
        if (!want.equals(got)) {
            faults.add(what + ": " + got + ", due is " + want);
        }
    }

    private static String told(Method method) {
        return method.toGenericString().replace("public ", "").replace("Runweaver.", "");
    }

    private static void checkMethods() {
        Set<String> shown = new TreeSet<>();
        Set<String> names = new HashSet<>();
        List<Method> hidden = new ArrayList<>();
        for (Method method : Runweaver.class.getDeclaredMethods()) {
            if (Modifier.isPrivate(method.getModifiers())) {
                hidden.add(method);
            } else {
                shown.add(told(method));
                names.add(method.getName());
            }
        }
        due("methods", shown, new TreeSet<>(Arrays.asList(FACE)));
        for (Class<?> inside : Runweaver.class.getDeclaredClasses()) {
            hidden.addAll(Arrays.asList(inside.getDeclaredMethods()));
        }
        for (Method method : hidden) {
            due("hidden method " + method + " has a public one's name", names.contains(method.getName()), false);
        }
    }

    private static void checkRest() {
        due("class is public and final", Runweaver.class.getModifiers(), Modifier.PUBLIC | Modifier.FINAL);
        due("constructors", Runweaver.class.getDeclaredConstructors().length, 1);
        for (Constructor<?> constructor : Runweaver.class.getDeclaredConstructors()) {
            due("constructor", constructor.toString(), "public Runweaver()");
        }
        for (Field field : Runweaver.class.getDeclaredFields()) {
            int modifiers = field.getModifiers();
            due("field " + field.getName() + " is private", Modifier.isPrivate(modifiers), true);
            if (Modifier.isStatic(modifiers)) {
                due("static field " + field.getName() + " is final", Modifier.isFinal(modifiers), true);
            }
        }
        for (Class<?> inside : Runweaver.class.getDeclaredClasses()) {
            due("class " + inside + " is static", Modifier.isStatic(inside.getModifiers()), true);
            due("class " + inside + " is public", Modifier.isPublic(inside.getModifiers()), false);
        }
    }

    public static void main(String[] args) {
        checkMethods();
        checkRest();
        faults.forEach(System.out::println);
        System.out.println(faults.isEmpty() ? "the face is as due" : faults.size() + " faults of the face");
        if (!faults.isEmpty()) {
            System.exit(1);
        }
    }
}
