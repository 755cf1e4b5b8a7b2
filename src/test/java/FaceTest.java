import java.lang.reflect.Constructor;
import java.lang.reflect.Field;
import java.lang.reflect.Method;
import java.lang.reflect.Modifier;
import java.util.Arrays;
import java.util.HashSet;
import java.util.List;
import java.util.Set;
import java.util.TreeSet;

/** "The public face": each member of it with its types and what it throws, and nothing else that can be seen. */
public final class FaceTest {
    private static final List<String> FACE = List.of(
            "int feed(int, int, int, int, int) throws IndexOutOfBoundsException",
            "int end(int) throws IllegalArgumentException",
            "int value(int, int) throws IllegalArgumentException",
            "int table(int) throws IllegalArgumentException, IllegalStateException",
            "int index(int, int) throws NoSuchElementException, IllegalArgumentException",
            "int key(int, int) throws NoSuchElementException, IllegalArgumentException, IllegalStateException, "
                    + "IndexOutOfBoundsException",
            "int add(int, int) throws IllegalArgumentException, NoSuchElementException, "
                    + "UnsupportedOperationException, IllegalStateException",
            "int remove(int, int, int) throws IllegalArgumentException, NoSuchElementException",
            "int find(int, int, int) throws IllegalArgumentException, NoSuchElementException",
            "int many(int, int, int) throws IllegalArgumentException, NoSuchElementException",
            "int open(int, int, int) throws IllegalArgumentException, NoSuchElementException, IllegalStateException",
            "int next(int) throws IllegalArgumentException, NoSuchElementException",
            "int close(int) throws IllegalArgumentException, NoSuchElementException",
            "int fact(int, int) throws IllegalArgumentException, NoSuchElementException",
            "int mark() throws IllegalStateException",
            "int back(boolean) throws IllegalStateException",
            "int purge(int) throws IllegalArgumentException, IllegalStateException",
            "int changes(int, int, int) throws IllegalArgumentException, NoSuchElementException",
            "int found(int) throws IndexOutOfBoundsException",
            "int question(int) throws IllegalArgumentException, UnsupportedOperationException, ArithmeticException",
            "int solution(int, int) throws IllegalArgumentException, IndexOutOfBoundsException",
            "int count(int) throws IllegalArgumentException");

    public static void main(String[] args) {
        theClass();
        methods();
        membersThatCanNotBeSeen();
        Check.finish("FaceTest");
    }

    private static void theClass() {
        Check.note("the class", "public final", Modifier.toString(FactKeeper.class.getModifiers()));
        Check.note("it stands on its own", "class java.lang.Object []", FactKeeper.class.getSuperclass() + " "
                + Arrays.toString(FactKeeper.class.getInterfaces()));
        Constructor<?>[] constructors = FactKeeper.class.getDeclaredConstructors();
        Check.note("constructors", "[public FactKeeper()]", Arrays.toString(constructors));
    }

    private static void methods() {
        Set<String> seen = new TreeSet<>();
        for (Method method : FactKeeper.class.getDeclaredMethods()) {
            if (!Modifier.isPrivate(method.getModifiers())) {
                Check.note(method.getName(), "public", Modifier.toString(method.getModifiers()));
                seen.add(face(method));
            }
        }
        Check.note("methods", new TreeSet<>(FACE).toString(), seen.toString());
    }

    private static String face(Method method) {
        return method.getReturnType().getSimpleName() + " " + method.getName() + "("
                + names(method.getParameterTypes()) + ") throws " + names(method.getExceptionTypes());
    }

    private static String names(Class<?>[] types) {
        return String.join(", ", Arrays.stream(types).map(Class::getSimpleName).toList());
    }

    // LANGUAGE.md, 1: no other member, and no private method by the name of a public one.
    private static void membersThatCanNotBeSeen() {
        Set<String> names = new HashSet<>();
        for (String one : FACE) {
            names.add(one.substring("int ".length(), one.indexOf('(')));
        }
        for (Method method : FactKeeper.class.getDeclaredMethods()) {
            if (Modifier.isPrivate(method.getModifiers()) && names.contains(method.getName())) {
                Check.note(method.toString(), "another name", "the name of a public one");
            }
        }
        for (Field field : FactKeeper.class.getDeclaredFields()) {
            Check.note(field.toString(), "true", String.valueOf(Modifier.isPrivate(field.getModifiers())));
        }
        for (Class<?> inside : FactKeeper.class.getDeclaredClasses()) {
            int how = inside.getModifiers();
            boolean isHidden = !Modifier.isPublic(how) && !Modifier.isProtected(how);
            Check.note(inside.toString(), "true", String.valueOf(isHidden && Modifier.isStatic(how)));
        }
    }
}
