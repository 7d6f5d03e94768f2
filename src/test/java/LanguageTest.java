import java.io.IOException;
import java.nio.file.Files;
import java.nio.file.Path;
import java.util.Set;
import java.util.regex.Matcher;
import java.util.regex.Pattern;

/** Words of Java and of its library that ../shared/LANGUAGE.md leaves out (rules 2, 4, 6, 11 and 13). */
public final class LanguageTest {
    private static final Set<String> IMPORTS = Set.of("java.util.Arrays", "java.util.ArrayList", "java.util.List");
    private static final Set<String> LIBRARY =
        Set.of("System.arraycopy", "Arrays.fill", "Arrays.copyOf", "Arrays.copyOfRange", "Math.min", "Math.max", "Math.abs");

    public static void main(String[] args) throws IOException {
        String source = Files.readString(Path.of("src/main/java/ConflictPlaces.java"));
        String code = source.replaceAll("(?s)/\\*.*?\\*/", "").replaceAll("//[^\n]*", "");
        // Characters first: one of them is the " that would begin a text.
        String bare = code.replaceAll("'\\\\?[^\n]'", "' '").replaceAll("\"[^\"\n]*+\"", "\"\"");
        none(bare, "\\b(throw|throws|try|catch|synchronized|assert|package|native|volatile|transient)\\b");
        none(bare, "->|::|\\bvar\\b");
        none(bare, "\\b(Object|Thread|Random|Runtime|Exception|Error|HashMap|Map|Set|Scanner|File)\\b");
        only(bare, "\\bimport ([\\w.]+);", IMPORTS);
        only(bare, "\\b((?:System|Arrays|Math|Integer|Long)\\.\\w+)", LIBRARY);
        none(bare, "\\b(protected|strictfp)\\b");
        methodsAreShort(code);
        Check.end();
    }

    private static void none(String code, String pattern) {
        Matcher found = Pattern.compile(pattern).matcher(code);
        Check.due("what is found of " + pattern, found.find() ? found.group() : "", "");
    }

    private static void only(String code, String pattern, Set<String> allowed) {
        Matcher found = Pattern.compile(pattern).matcher(code);
        while (found.find()) {
            Check.due(found.group(1) + " is left in the library", allowed.contains(found.group(1)) ? 1 : 0, 1);
        }
    }

    /** A method of the class begins four blanks in, one of a class inside it eight. */
    private static void methodsAreShort(String code) {
        Matcher method = Pattern.compile("(?ms)^( {4}| {8})(?:public|private)[^;={]*\\([^;={]*\\{$.*?^\\1\\}$").matcher(code);
        int methods = 0;
        while (method.find()) {
            String text = method.group();
            Check.due("lines of " + text.lines().findFirst().orElse(""), text.lines().count() <= 60 ? 1 : 0, 1);
            methods++;
        }
        Check.due("methods are found", methods > 100 ? 1 : 0, 1);
    }
}
