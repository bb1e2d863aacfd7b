import java.lang.reflect.Constructor;
import java.lang.reflect.Field;
import java.lang.reflect.Method;
import java.lang.reflect.Modifier;
import java.util.Set;
import java.util.TreeSet;

/** The public face is the document's, and nothing else can be seen. */
final class FaceTest {
    private static final String[] METHODS = {
        "int field(int, int)", "int octet(int, int, int)", "int scale(int, int)", "int weight(int, int)",
        "int node(int, int, int)", "int name88(int, long, long)", "int range(int, long, long)",
        "int short0(int, int, int)", "int more(int, boolean, int, int)", "int unfold()",
        "boolean truth(int) throws IllegalArgumentException IllegalStateException",
        "int asked(int)", "int switchOn(int, boolean)",
        "int compare(int, int) throws IllegalArgumentException IllegalStateException", "int count(int)"
    };

    public static void main(String[] args) {
        Check.due("NONE", ConditionRows.NONE, -1);
        Check.due("public and final", ConditionRows.class.getModifiers(), Modifier.PUBLIC | Modifier.FINAL);
        methods();
        constructorsAndFields();
        Check.end();
    }

    private static void methods() {
        Set<String> due = new TreeSet<>(Set.of(METHODS));
        Set<String> publicNames = new TreeSet<>();
        for (Method method : ConditionRows.class.getDeclaredMethods()) {
            if (Modifier.isPublic(method.getModifiers())) {
                Check.due("a method of the document: " + signature(method), due.remove(signature(method)), true);
                Check.due("a name of its own: " + method.getName(), publicNames.add(method.getName()), true);
            }
        }
        Check.due("missing " + due, due.size(), 0);
        for (Method method : ConditionRows.class.getDeclaredMethods()) {
            if (!Modifier.isPublic(method.getModifiers())) {
                Check.due("private: " + method, Modifier.isPrivate(method.getModifiers()), true);
                Check.due("no public name: " + method, publicNames.contains(method.getName()), false);
            }
        }
        for (Class<?> inside : ConditionRows.class.getDeclaredClasses()) {
            for (Method method : inside.getDeclaredMethods()) {
                Check.due("no public name: " + method, publicNames.contains(method.getName()), false);
            }
        }
    }

    private static void constructorsAndFields() {
        Constructor<?>[] constructors = ConditionRows.class.getDeclaredConstructors();
        Check.due("constructors", constructors.length, 1);
        Check.due("its parameters", constructors[0].getParameterCount(), 1);
        Check.due("its order", constructors[0].getParameterTypes()[0] == int.class, true);
        Check.due("public", constructors[0].getModifiers(), Modifier.PUBLIC);
        for (Field field : ConditionRows.class.getDeclaredFields()) {
            boolean isPrivate = Modifier.isPrivate(field.getModifiers());
            Check.due("private but for NONE: " + field, isPrivate, !field.getName().equals("NONE"));
        }
        for (Class<?> inside : ConditionRows.class.getDeclaredClasses()) {
            Check.due("static: " + inside, Modifier.isStatic(inside.getModifiers()), true);
            Check.due("not public: " + inside, Modifier.isPublic(inside.getModifiers()), false);
        }
    }

    private static String signature(Method method) {
        StringBuilder text = new StringBuilder(method.getReturnType().getName());
        text.append(' ').append(method.getName()).append('(');
        String between = "";
        for (Class<?> type : method.getParameterTypes()) {
            text.append(between).append(type.getName());
            between = ", ";
        }
        text.append(')');
        between = " throws ";
        for (Class<?> type : method.getExceptionTypes()) {
            text.append(between).append(type.getSimpleName());
            between = " ";
        }
        return text.toString();
    }
}
