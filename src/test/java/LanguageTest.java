import java.lang.reflect.Constructor;
import java.lang.reflect.Executable;
import java.lang.reflect.Field;
import java.lang.reflect.Method;
import java.lang.reflect.Modifier;
import java.util.ArrayList;
import java.util.List;
import java.util.Set;

/** Those rules of LANGUAGE.md that can be seen in the compiled class: 1, 2, 3, 5, 6 and 11. */
final class LanguageTest {
    private static final int MOST_CLASSES = 12;
    private static final int MOST_FIELDS = 20;
    private static final int MOST_PARAMETERS = 7;
    private static final Set<Class<?>> CONSTANTS = Set.of(
        int.class, long.class, boolean.class, char.class, String.class,
        int[].class, long[].class, char[].class, byte[].class);
    private static final Set<String> THROWING = Set.of("truth", "compare");

    public static void main(String[] args) {
        List<Class<?>> classes = new ArrayList<>(List.of(ConditionRows.class.getDeclaredClasses()));
        for (Class<?> inside : classes) {
            Check.due("static: " + inside, Modifier.isStatic(inside.getModifiers()), true);
            Check.due("nothing inside it: " + inside, inside.getDeclaredClasses().length, 0);
        }
        classes.add(ConditionRows.class);
        Check.due("few classes: " + classes.size(), classes.size() <= MOST_CLASSES, true);
        for (Class<?> each : classes) {
            fields(each);
            methods(each);
        }
        Check.end();
    }

    private static void fields(Class<?> of) {
        int own = 0;
        for (Field field : of.getDeclaredFields()) {
            if (Modifier.isStatic(field.getModifiers())) {
                Check.due("final: " + field, Modifier.isFinal(field.getModifiers()), true);
                Check.due("a constant's type: " + field, CONSTANTS.contains(field.getType()), true);
            } else {
                own++;
                Check.due("a type of the language: " + field, isOfTheLanguage(field.getType()), true);
            }
        }
        Check.due("few fields: " + of, own <= MOST_FIELDS, true);
    }

    private static void methods(Class<?> of) {
        for (Method method : of.getDeclaredMethods()) {
            Check.due("written out, no lambda: " + method, method.isSynthetic(), false);
            signature(method, of == ConditionRows.class && THROWING.contains(method.getName()));
        }
        for (Constructor<?> constructor : of.getDeclaredConstructors()) {
            signature(constructor, false);
        }
    }

    private static void signature(Executable of, boolean mayThrow) {
        Check.due("few parameters: " + of, of.getParameterCount() <= MOST_PARAMETERS, true);
        Check.due("throws what the document says: " + of, of.getExceptionTypes().length > 0, mayThrow);
        for (Class<?> type : of.getParameterTypes()) {
            Check.due("a type of the language: " + of, isOfTheLanguage(type), true);
        }
    }

    private static boolean isOfTheLanguage(Class<?> type) {
        Class<?> part = type.isArray() ? type.getComponentType() : type;
        return part.isPrimitive() || part.getEnclosingClass() == ConditionRows.class;
    }
}
