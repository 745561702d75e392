import java.lang.reflect.Constructor;
import java.lang.reflect.Field;
import java.lang.reflect.Method;
import java.lang.reflect.Modifier;
import java.util.Arrays;
import java.util.Set;
import java.util.TreeSet;

/** The class shows the document's face and nothing more, and holds no state outside its objects. */
public final class FaceTests {
    private static int wrong = 0;

    public static void main(String[] args) {
        Set<String> want = new TreeSet<>(Arrays.asList(
                "int put(int, int, int, int) [IllegalArgumentException, IllegalStateException]",
                "int out(int, int) [IllegalArgumentException, NoSuchElementException]",
                "int speak(int, int, int, int, int, int)"
                        + " [IllegalArgumentException, NoSuchElementException, IndexOutOfBoundsException]",
                "void touch(int, int) [IllegalArgumentException]",
                "int spread() []",
                "int told(int, int, int) [IllegalArgumentException, NoSuchElementException]",
                "int owner(int, int) [IllegalArgumentException]"));
        Set<String> got = new TreeSet<>();
        for (Method method : HangGraph.class.getDeclaredMethods()) {
            if (Modifier.isPublic(method.getModifiers())) {
                got.add(signature(method));
            } else {
                check(Modifier.isPrivate(method.getModifiers()), "private: " + method);
            }
        }
        check(got.equals(want), "the methods are " + got);

        int modifiers = HangGraph.class.getModifiers();
        check(Modifier.isPublic(modifiers) && Modifier.isFinal(modifiers), "public and final");
        Constructor<?>[] constructors = HangGraph.class.getDeclaredConstructors();
        check(constructors.length == 1 && constructors[0].getParameterCount() == 0
                && Modifier.isPublic(constructors[0].getModifiers()), "one public constructor");
        checkFields(HangGraph.class);
        for (Class<?> inside : HangGraph.class.getDeclaredClasses()) {
            check(Modifier.isStatic(inside.getModifiers()), "static: " + inside);
            check(!Modifier.isPublic(inside.getModifiers()), "not public: " + inside);
            checkFields(inside);
        }
        System.out.println(wrong == 0 ? "the face is as due" : "the face is not as due");
        if (wrong != 0) {
            System.exit(1);
        }
    }

    /** Also for ReadmeTests, whose table of calls has the same form. */
    static String signature(Method method) {
        StringBuilder text = new StringBuilder();
        text.append(method.getReturnType().getSimpleName()).append(' ').append(method.getName());
        text.append(names(method.getParameterTypes()).replace('[', '(').replace(']', ')'));
        return text.append(' ').append(names(method.getExceptionTypes())).toString();
    }

    private static String names(Class<?>[] types) {
        return Arrays.toString(Arrays.stream(types).map(Class::getSimpleName).toArray());
    }

    private static void checkFields(Class<?> owner) {
        for (Field field : owner.getDeclaredFields()) {
            int modifiers = field.getModifiers();
            if (owner == HangGraph.class) {
                check(Modifier.isPrivate(modifiers), "private: " + field);
            }
            if (Modifier.isStatic(modifiers)) {
                check(Modifier.isFinal(modifiers), "final: " + field);
            }
        }
    }

    private static void check(boolean holds, String text) {
        if (!holds) {
            wrong++;
            System.out.println("not as due: " + text);
        }
    }
}
