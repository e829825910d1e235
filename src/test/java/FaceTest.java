import java.lang.reflect.Constructor;
import java.lang.reflect.Field;
import java.lang.reflect.Method;
import java.lang.reflect.Modifier;
import java.util.Arrays;
import java.util.Set;
import java.util.TreeSet;

/** The class has the face of the document, and nothing else to be seen from outside. */
public final class FaceTest {
    private static final String I = "IndexOutOfBoundsException";
    private static final String A = "IllegalArgumentException";
    private static final String S = "IllegalStateException";
    private static final String E = "NoSuchElementException";
    private static final String[] METHODS = {
        "int addSource(int) " + A + " " + S, "int setTrust(int, int) " + I + " " + A,
        "int addRecord(int, int, int, int) " + I + " " + A + " " + S, "int setKey(int, int, int) " + I + " " + A,
        "int setFact(int, int, int) " + I + " " + A, "int see(int) " + I, "int drop(int) " + I,
        "int forbid(int, int) " + I + " " + A + " " + S, "int allow(int, int) " + I + " " + E, "int records()",
        "int key(int, int) " + I, "int seen(int) " + I, "int thing(int) " + I, "int thingByRounds(int) " + I,
        "int things()", "int size(int) " + I, "int member(int, int) " + I + " " + E,
        "boolean areTogether(int, int) " + I, "int step(int, int) " + I + " " + A + " " + E, "int shared(int) " + I,
        "int thingsWithout(int) " + I, "int thingsIf(int, int, int) " + I + " " + A,
        "int thingsIfAllowed(int, int) " + I + " " + E, "int weight(int) " + I, "int fact(int, int) " + I + " " + E,
        "int factByPairs(int, int) " + I + " " + E, "int factFrom(int, int) " + I + " " + E,
        "float agreement(int, int) " + I + " " + E, "int setLimit(int) " + A, "boolean isGhost(int) " + I,
        "int ghosts()", "int nextGhost()", "int nextGhostByDays()", "int pass(int) " + A, "int today()",
        "long mark()"
    };

    public static void main(String[] args) {
        Class<?> face = Assetmerge.class;
        Checks.due("modifiers", face.getModifiers(), Modifier.PUBLIC | Modifier.FINAL);
        Checks.due("superclass", face.getSuperclass(), Object.class);
        Checks.due("constructors", face.getDeclaredConstructors().length, 1);
        Constructor<?> constructor = face.getDeclaredConstructors()[0];
        Checks.due("constructor", constructor.toString(), "public Assetmerge()");
        methods(face);
        for (Field field : face.getDeclaredFields()) {
            Checks.due("field " + field.getName() + " is private", Modifier.isPrivate(field.getModifiers()), true);
            boolean open = Modifier.isStatic(field.getModifiers()) && !Modifier.isFinal(field.getModifiers());
            Checks.due("field " + field.getName() + " is static state", open, false);
        }
        for (Class<?> inside : face.getDeclaredClasses()) {
            boolean seen = (inside.getModifiers() & (Modifier.PUBLIC | Modifier.PROTECTED)) != 0;
            Checks.due("class " + inside.getName() + " is seen from outside", seen, false);
        }
        Checks.end();
    }

    private static void methods(Class<?> face) {
        Set<String> due = new TreeSet<>(Arrays.asList(METHODS));
        Set<String> open = new TreeSet<>();
        Set<String> openNames = new TreeSet<>();
        for (Method method : face.getDeclaredMethods()) {
            if (!Modifier.isPrivate(method.getModifiers())) {
                open.add(tell(method));
                openNames.add(method.getName());
                Checks.due("modifiers of " + method.getName(), method.getModifiers(), Modifier.PUBLIC);
            }
        }
        Checks.due("methods", open, due);
        for (Method method : face.getDeclaredMethods()) {
            if (Modifier.isPrivate(method.getModifiers())) {
                Checks.due("private " + method.getName() + " bears a name of the face",
                        openNames.contains(method.getName()), false);
            }
        }
    }

    private static String tell(Method method) {
        StringBuilder told = new StringBuilder();
        told.append(method.getReturnType()).append(' ').append(method.getName()).append('(');
        for (Class<?> type : method.getParameterTypes()) {
            told.append(told.charAt(told.length() - 1) == '(' ? "" : ", ").append(type);
        }
        told.append(')');
        for (Class<?> type : method.getExceptionTypes()) {
            told.append(' ').append(type.getSimpleName());
        }
        return told.toString();
    }
}
