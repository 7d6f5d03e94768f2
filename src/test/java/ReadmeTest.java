import java.io.IOException;
import java.nio.file.Files;
import java.nio.file.Path;

/** The example in README.md answers what is said there, and stands there as it is run here. */
public final class ReadmeTest {
    private static String readme;

    public static void main(String[] args) throws IOException {
        readme = Files.readString(Path.of("README.md"));
        String text = "f x = x + 1; g = f \"a\"";
        says("\"f x = x + 1; g = f \\\"a\\\"\"");
        ConflictPlaces x = new ConflictPlaces();
        for (char c : text.toCharArray()) {
            x.feed(1, c);
        }
        says("x.feed(1, c);");
        due("x.read()", x.read(), 10);
        due("x.fits()", x.fits(), 0);
        due("x.search(2000)", x.search(2000), 1);
        due("x.told(6)", x.told(6), 1);
        due("x.set(0, -1)", x.set(0, -1), 6);
        due("x.rule(x.set(0, 0))", x.rule(x.set(0, 0)), 0);
        due("x.changes()", x.changes(), 5);
        due("x.change(0, 0)", x.change(0, 0), 0);
        due("x.change(0, 1)", x.change(0, 1), 0);
        due("x.change(0, 2)", x.change(0, 2), 13);
        due("x.mended(0, 11)", x.mended(0, 11), 11);
        Check.due("THE OUT", Check.out(x), "Text -> Num");
        Check.end();
    }

    private static void says(String words) {
        Check.due("README.md says " + words, readme.contains(words) ? 1 : 0, 1);
    }

    private static void due(String call, int got, int want) {
        Check.due(call, got, want);
        String line = readme.lines().filter(l -> l.startsWith(call + ";")).findFirst().orElse("");
        Check.due("README.md has what " + call + " answers", line.matches(".*// " + want + "\\b.*") ? 1 : 0, 1);
    }
}
