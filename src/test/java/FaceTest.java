import java.lang.reflect.Constructor;
import java.lang.reflect.Field;
import java.lang.reflect.Method;
import java.lang.reflect.Modifier;
import java.util.Arrays;
import java.util.Set;
import java.util.TreeSet;
import java.util.stream.Collectors;

/** The document's public face, and rule 1 of LANGUAGE.md: nothing but that face can be seen. */
public final class FaceTest {
    private static final Set<String> FACE = new TreeSet<>(Set.of(
        "int times(int, int) throws IllegalArgumentException",
        "int inverse(int) throws IllegalArgumentException, ArithmeticException",
        "int attempt(long)",
        "int search(long) throws ArithmeticException",
        "int coefficient(int)",
        "int support(int)",
        "int row(int) throws IllegalStateException, IllegalArgumentException",
        "int hide(int) throws IllegalStateException, IllegalArgumentException",
        "int find(int) throws IllegalStateException, IllegalArgumentException, ArithmeticException",
        "int seal(long) throws IllegalStateException, ArithmeticException",
        "long shared()",
        "long open(int) throws IllegalStateException, IllegalArgumentException",
        "boolean erase()"));

    public static void main(String[] args) {
        Class<?> box = GoppaLockbox.class;
        Check.holds("the class is public and final",
            Modifier.isPublic(box.getModifiers()) && Modifier.isFinal(box.getModifiers()));
        methods(box);
        fields(box);
        Constructor<?>[] constructors = box.getDeclaredConstructors();
        Check.holds("one constructor, public, of two ints", constructors.length == 1
            && Modifier.isPublic(constructors[0].getModifiers())
            && Arrays.equals(constructors[0].getParameterTypes(), new Class<?>[] {int.class, int.class}));
        Check.due("NONE", -1, () -> GoppaLockbox.NONE);
        Check.finish();
    }

    private static void methods(Class<?> box) {
        Set<String> seen = new TreeSet<>();
        Set<String> hidden = new TreeSet<>();
        for (Method method : box.getDeclaredMethods()) {
            if (Modifier.isPublic(method.getModifiers())) {
                seen.add(written(method));
            } else {
                Check.holds(method + " is private", Modifier.isPrivate(method.getModifiers()));
                hidden.add(method.getName());
            }
        }
        Check.due("the public methods", FACE, () -> seen);
        for (String name : hidden) {
            Check.holds("no public method is named " + name,
                FACE.stream().noneMatch(face -> face.contains(" " + name + "(")));
        }
    }

    private static void fields(Class<?> box) {
        for (Field field : box.getDeclaredFields()) {
            int modifiers = field.getModifiers();
            if (field.getName().equals("NONE")) {
                Check.holds("NONE is public static final int", field.getType() == int.class
                    && modifiers == (Modifier.PUBLIC | Modifier.STATIC | Modifier.FINAL));
            } else {
                Check.holds(field + " is private", Modifier.isPrivate(modifiers));
                Check.holds(field + " is no static state",
                    !Modifier.isStatic(modifiers) || Modifier.isFinal(modifiers));
            }
        }
    }

    private static String written(Method method) {
        String parameters = names(method.getParameterTypes());
        String thrown = names(method.getExceptionTypes());
        return method.getReturnType().getSimpleName() + " " + method.getName() + "(" + parameters + ")"
            + (thrown.isEmpty() ? "" : " throws " + thrown);
    }

    private static String names(Class<?>[] types) {
        return Arrays.stream(types).map(Class::getSimpleName).collect(Collectors.joining(", "));
    }
}
