import java.lang.reflect.Constructor;
import java.lang.reflect.Field;
import java.lang.reflect.Method;
import java.lang.reflect.Modifier;
import java.util.Arrays;
import java.util.Set;
import java.util.TreeSet;
import java.util.stream.Collectors;

/** The public face is the document's, with nothing more. */
public final class FaceTest {
    private static final Set<String> FACE = Set.of(
            "boolean write(char)",
            "int rule() throws IllegalArgumentException, IllegalStateException",
            "int compile() throws IllegalStateException, UnsupportedOperationException",
            "int text() throws IllegalArgumentException",
            "boolean cost(int, boolean, int)",
            "int parse() throws IllegalStateException",
            "int repair(int) throws IllegalStateException, IllegalArgumentException, UnsupportedOperationException",
            "int step(int, int)",
            "int price()",
            "int reach(int) throws NoSuchElementException",
            "int apply(int) throws NoSuchElementException, IllegalStateException",
            "int letter(int)",
            "int count(int)");

    public static void main(String[] args) {
        int modifiers = RepairDesk.class.getModifiers();
        Check.isTrue("public final", Modifier.isPublic(modifiers) && Modifier.isFinal(modifiers));
        Set<String> methods = new TreeSet<>();
        for (Method method : RepairDesk.class.getDeclaredMethods()) {
            if (!Modifier.isPrivate(method.getModifiers())) {
                Check.isTrue(method + " is public", Modifier.isPublic(method.getModifiers()));
                methods.add(faceOf(method));
            }
        }
        Check.isTrue("the methods " + methods, methods.equals(FACE));
        Constructor<?>[] constructors = RepairDesk.class.getDeclaredConstructors();
        Check.same("constructors", 1, constructors.length);
        Check.isTrue("public constructor", Modifier.isPublic(constructors[0].getModifiers()));
        Check.same("its parameters", 0, constructors[0].getParameterCount());
        for (Field field : RepairDesk.class.getDeclaredFields()) {
            Check.isTrue(field + " is private", Modifier.isPrivate(field.getModifiers()));
        }
        Check.end();
    }

    private static String faceOf(Method method) {
        String thrown = names(method.getExceptionTypes());
        return method.getReturnType().getSimpleName() + " " + method.getName()
                + "(" + names(method.getParameterTypes()) + ")" + (thrown.isEmpty() ? "" : " throws " + thrown);
    }

    private static String names(Class<?>[] types) {
        return Arrays.stream(types).map(Class::getSimpleName).collect(Collectors.joining(", "));
    }
}
