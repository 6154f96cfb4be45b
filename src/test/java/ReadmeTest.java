import java.io.IOException;
import java.lang.reflect.InvocationTargetException;
import java.lang.reflect.Method;
import java.nio.file.Files;
import java.nio.file.Path;
import java.util.HashSet;
import java.util.Set;
import java.util.regex.Matcher;
import java.util.regex.Pattern;

/** Each call of README.md's example answers, or throws, what stands behind it. */
public final class ReadmeTest {
    private static final Pattern CALL = Pattern.compile("shelf\\.(\\w+)\\(([-\\d, ]*)\\); +// (.*)");
    private static final Pattern OUTCOME = Pattern.compile("(?:answers|throws) ([-\\w]+)");
    private static final Pattern HELD = Pattern.compile("slot (\\d+): ([-\\d, ]+)");
    private static final Set<String> KINDS = Set.of("add", "push", "set", "at", "cut", "fill", "size", "hash", "open",
            "build", "freeze");

    public static void main(String[] args) throws IOException {
        Checks.sentence("README.md, promises 1 to 12", "the example");
        RadixShelf shelf = new RadixShelf();
        Set<String> shown = new HashSet<>();
        for (String line : Files.readAllLines(Path.of("README.md"))) {
            Matcher call = CALL.matcher(line);
            if (call.matches()) {
                shown.add(call.group(1));
                checkCall(shelf, call);
            }
        }
        Checks.due("the kinds of calls in the example", shown, KINDS);
        Checks.finish("ReadmeTest");
    }

    private static void checkCall(RadixShelf shelf, Matcher call) {
        String text = call.group(1) + "(" + call.group(2) + ")";
        Matcher outcome = OUTCOME.matcher(call.group(3));
        String want = outcome.lookingAt() ? outcome.group(1) : "null";
        Checks.due(text, outcomeOf(shelf, call.group(1), call.group(2).split(", ")), want);
        Matcher held = HELD.matcher(call.group(3));
        while (held.find()) {
            Checks.dueElements(text, shelf, Integer.parseInt(held.group(1)), longs(held.group(2)));
        }
    }

    private static String outcomeOf(RadixShelf shelf, String name, String[] numbers) {
        for (Method method : RadixShelf.class.getMethods()) {
            if (method.getName().equals(name)) {
                return invoked(shelf, method, numbers);
            }
        }
        return "no such call";
    }

    private static String invoked(RadixShelf shelf, Method method, String[] numbers) {
        Object[] given = new Object[numbers.length];
        for (int i = 0; i < numbers.length; i++) {
            boolean isInt = method.getParameterTypes()[i] == int.class;
            given[i] = isInt ? (Object) Integer.valueOf(numbers[i]) : (Object) Long.valueOf(numbers[i]);
        }
        try {
            return String.valueOf(method.invoke(shelf, given));
        } catch (InvocationTargetException e) {
            return e.getCause().getClass().getSimpleName();
        } catch (IllegalAccessException e) {
            return e.toString();
        }
    }

    private static long[] longs(String text) {
        String[] numbers = text.split(", ");
        long[] elements = new long[numbers.length];
        for (int i = 0; i < numbers.length; i++) {
            elements[i] = Long.parseLong(numbers[i]);
        }
        return elements;
    }
}
