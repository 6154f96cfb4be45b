import java.lang.reflect.Constructor;
import java.lang.reflect.Field;
import java.lang.reflect.Member;
import java.lang.reflect.Method;
import java.lang.reflect.Modifier;
import java.util.Arrays;
import java.util.Set;
import java.util.TreeSet;
import java.util.stream.Collectors;

/** The class has the document's public face and no other member that is not private. */
public final class FaceTest {
    private static final String ARGUMENT = "IllegalArgumentException";
    private static final String STATE = "IllegalStateException";
    private static final String NO_ELEMENT = "NoSuchElementException";
    private static final String FULL = "IndexOutOfBoundsException";

    public static void main(String[] args) {
        Checks.sentence("The public face, promises 1 to 12", "names, parameters, answers, what is thrown");
        Set<String> want = new TreeSet<>();
        want.add(line("int", "add", "int slot,int from,long v", ARGUMENT, FULL));
        want.add(line("int", "push", "int slot,int from,long v", ARGUMENT, FULL));
        want.add(line("long", "set", "int slot,int from,int i,long v", ARGUMENT, NO_ELEMENT));
        want.add(line("long", "at", "int slot,int i", ARGUMENT, NO_ELEMENT));
        want.add(line("int", "cut", "int slot,int from,int front,int back", ARGUMENT, NO_ELEMENT));
        want.add(line("int", "fill", "int slot,long x,long step,int n", ARGUMENT));
        want.add(line("int", "size", "int slot", ARGUMENT));
        want.add(line("long", "hash", "int slot", ARGUMENT));
        want.add(line("void", "open", "int from", ARGUMENT, STATE));
        want.add(line("int", "build", "int what,int i,long v", ARGUMENT, STATE, NO_ELEMENT, FULL));
        want.add(line("int", "freeze", "int slot", ARGUMENT, STATE));
        Checks.due("methods", shownMethods(), want);
        Checks.due("class", Modifier.toString(RadixShelf.class.getModifiers()), "public final");
        Constructor<?>[] constructors = RadixShelf.class.getDeclaredConstructors();
        Checks.due("constructors", Arrays.toString(constructors), "[public RadixShelf()]");
        for (Field field : RadixShelf.class.getDeclaredFields()) {
            Checks.due("field " + field.getName() + " is private", isPrivate(field), true);
        }
        for (Class<?> inside : RadixShelf.class.getDeclaredClasses()) {
            int modifiers = inside.getModifiers();
            boolean shown = Modifier.isPublic(modifiers) || Modifier.isProtected(modifiers);
            Checks.due("class " + inside.getSimpleName() + " is shown", shown, false);
            Checks.due("class " + inside.getSimpleName() + " is static", Modifier.isStatic(modifiers), true);
        }
        noPrivateMethodBearsAPublicName();
        Checks.finish("FaceTest");
    }

    private static String line(String answer, String name, String parameters, String... thrown) {
        return "public " + answer + " " + name + "(" + parameters + ") throws " + String.join(",", thrown);
    }

    private static Set<String> shownMethods() {
        Set<String> shown = new TreeSet<>();
        for (Method method : RadixShelf.class.getDeclaredMethods()) {
            if (!isPrivate(method) && !method.isSynthetic()) {
                shown.add(Modifier.toString(method.getModifiers()) + " " + method.getReturnType().getSimpleName() + " "
                        + method.getName() + "(" + parameters(method) + ") throws "
                        + names(method.getExceptionTypes()));
            }
        }
        return shown;
    }

    private static void noPrivateMethodBearsAPublicName() {
        Method[] methods = RadixShelf.class.getDeclaredMethods();
        Set<String> shown = Arrays.stream(methods).filter(m -> !isPrivate(m)).map(Method::getName)
                .collect(Collectors.toSet());
        for (Method method : methods) {
            if (isPrivate(method)) {
                Checks.due("private " + method.getName() + " is public too", shown.contains(method.getName()), false);
            }
        }
    }

    private static boolean isPrivate(Member member) {
        return Modifier.isPrivate(member.getModifiers());
    }

    /** The names are there only if the class is compiled with -parameters, as .ci/run does. */
    private static String parameters(Method method) {
        return Arrays.stream(method.getParameters()).map(p -> p.getType().getSimpleName() + " " + p.getName())
                .collect(Collectors.joining(","));
    }

    private static String names(Class<?>[] types) {
        return Arrays.stream(types).map(Class::getSimpleName).collect(Collectors.joining(","));
    }
}
