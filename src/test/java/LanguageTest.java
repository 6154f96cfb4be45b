import java.io.IOException;
import java.nio.file.Files;
import java.nio.file.Path;
import java.util.Arrays;
import java.util.Set;
import java.util.TreeSet;
import java.util.regex.Matcher;
import java.util.regex.Pattern;

/** Those rules of LANGUAGE.md that can be seen from the words of the source alone. */
public final class LanguageTest {
    private static final Path SOURCE = Path.of("src/main/java/RadixShelf.java");

    // The class needs no more of the library than this; a new name is looked up in rules 3, 4 and 6 first.
    private static final Set<String> LIBRARY = Set.of("IllegalArgumentException", "IllegalStateException",
            "IndexOutOfBoundsException", "NoSuchElementException");

    public static void main(String[] args) throws IOException {
        String source = withoutTextsAndComments(Files.readString(SOURCE));
        Checks.sentence("LANGUAGE.md, rule 4, promises 1 to 12", "The library: only what stands here.");
        Checks.due("imports", found(source, "import ([\\w.]+);"), Set.of("java.util.NoSuchElementException"));
        Set<String> own = found(source, "class (\\w+)");
        Set<String> types = found(source, "\\b([A-Z][a-z]\\w*)");
        types.removeAll(own);
        Checks.due("names of the library", types, new TreeSet<>(LIBRARY));
        Checks.due("functions of the library", libraryFunctions(source), Set.of("clone"));
        Checks.sentence("LANGUAGE.md, rules 2, 6 and 10", "words that the rules leave out");
        for (String word : Arrays.asList("->", "::", "package ", "synchronized", "assert ", "finally", "static {")) {
            Checks.due("the source has \"" + word + "\"", source.contains(word), false);
        }
        Checks.finish("LanguageTest");
    }

    private static String withoutTextsAndComments(String source) {
        return source.replaceAll("(?s)/\\*.*?\\*/", "").replaceAll("//[^\n]*", "").replaceAll("\"[^\"\n]*\"", "\"\"");
    }

    /** What is called with a dot before it and is not a method of the source itself. */
    private static Set<String> libraryFunctions(String source) {
        Set<String> called = found(source, "\\.(\\w+)\\(");
        called.removeAll(found(source, "(?m)^ +(?:\\w+ )*\\w+ (\\w+)\\([^;]*\\{$"));
        return called;
    }

    private static Set<String> found(String source, String pattern) {
        Set<String> words = new TreeSet<>();
        Matcher matcher = Pattern.compile(pattern).matcher(source);
        while (matcher.find()) {
            words.add(matcher.group(1));
        }
        return words;
    }
}
