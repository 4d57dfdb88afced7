import java.lang.reflect.Constructor;
import java.lang.reflect.Field;
import java.lang.reflect.Method;
import java.lang.reflect.Modifier;
import java.util.ArrayList;
import java.util.Arrays;
import java.util.List;
import java.util.TreeSet;

/** The public face is the document's, to the letter, and nothing else can be seen of the class. */
public final class FaceTest {
    private static final List<String> FACE = List.of(
            "int build()",
            "int count(int) NoSuchElementException",
            "void drop(int) IllegalArgumentException",
            "void edit(int, int, int) IllegalArgumentException NoSuchElementException",
            "int look(int, int) IllegalArgumentException",
            "int run(int, int, int, int, int) NoSuchElementException",
            "void sign(int, int, int, boolean) IllegalArgumentException",
            "int size()",
            "boolean token(int, int) IllegalArgumentException IllegalStateException",
            "int used()",
            "int value()",
            "int wipe(int) IllegalArgumentException",
            "int word(int) NoSuchElementException");

    public static void main(String[] args) {
        Check.due("the class is public and final", UnitDesk.class.getModifiers(), Modifier.PUBLIC | Modifier.FINAL);
        Constructor<?>[] constructors = UnitDesk.class.getDeclaredConstructors();
        Check.due("one constructor", constructors.length, 1);
        Check.due("without parameters", constructors[0].getParameterCount(), 0);
        Check.due("which is public", constructors[0].getModifiers(), Modifier.PUBLIC);
        methods();
        members();
        Check.end();
    }

    private static void methods() {
        TreeSet<String> missing = new TreeSet<>(FACE);
        TreeSet<String> names = new TreeSet<>();
        List<Method> hidden = new ArrayList<>();
        for (Method method : UnitDesk.class.getDeclaredMethods()) {
            if (Modifier.isPrivate(method.getModifiers())) {
                hidden.add(method);
                continue;
            }
            names.add(method.getName());
            Check.due(method + " is of the face", missing.remove(told(method)), true);
            Check.due(method + " is public", method.getModifiers(), Modifier.PUBLIC);
        }
        Check.due("methods of the face that are missing: " + missing, missing.size(), 0);
        for (Method method : hidden) {
            Check.due(method + " bears the name of a public one", names.contains(method.getName()), false);
        }
    }

    private static void members() {
        for (Field field : UnitDesk.class.getDeclaredFields()) {
            Check.due(field + " is private", Modifier.isPrivate(field.getModifiers()), true);
        }
        for (Class<?> inside : UnitDesk.class.getDeclaredClasses()) {
            Check.due(inside + " is static", Modifier.isStatic(inside.getModifiers()), true);
        }
    }

    private static String told(Method method) {
        StringBuilder told = new StringBuilder();
        told.append(method.getReturnType().getSimpleName()).append(' ').append(method.getName()).append('(');
        List<String> parameters = new ArrayList<>();
        for (Class<?> type : method.getParameterTypes()) {
            parameters.add(type.getSimpleName());
        }
        told.append(String.join(", ", parameters)).append(')');
        List<String> thrown = new ArrayList<>();
        Arrays.asList(method.getExceptionTypes()).forEach(type -> thrown.add(type.getSimpleName()));
        thrown.stream().sorted().forEach(name -> told.append(' ').append(name));
        return told.toString();
    }
}
