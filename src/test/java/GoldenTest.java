import java.io.IOException;
import java.nio.file.Files;
import java.nio.file.Path;
import java.util.ArrayList;
import java.util.List;

/**
 * Whole texts with every answer that they have, all promises together. The answers in
 * src/test/data/golden.txt are those of a second program of the same author, not kept here, that
 * rewrites the tree for each change and makes its rules anew: it can show slips, but not a wrong
 * reading of the document. Bytes that can't be printed stand there as %xx.
 */
public final class GoldenTest {
    public static void main(String[] args) throws IOException {
        List<String> lines = Files.readAllLines(Path.of("src/test/data/golden.txt"));
        ConflictPlaces x = new ConflictPlaces();
        int texts = 0;
        for (int from = 0; from < lines.size();) {
            int to = from + 1;
            while (to < lines.size() && !lines.get(to).startsWith("text ")) {
                to++;
            }
            // Some texts come behind another one in the same object.
            if (texts % 3 == 0) {
                x = new ConflictPlaces();
            }
            compare(x, lines.get(from), lines.subList(from + 1, to));
            texts++;
            from = to;
        }
        Check.due("how many texts", texts, 52);
        Check.end();
    }

    private static void compare(ConflictPlaces x, String text, List<String> want) {
        List<String> got = answers(x, decoded(text.substring(5)));
        Check.due("how many answers for " + text, got.size(), want.size());
        for (int i = 0; i < Math.min(got.size(), want.size()); i++) {
            Check.due(text + ", answer " + i, got.get(i), want.get(i));
        }
    }

    private static String decoded(String text) {
        StringBuilder b = new StringBuilder();
        for (int i = 0; i < text.length(); i++) {
            char c = text.charAt(i);
            if (c == '%') {
                b.append((char) Integer.parseInt(text.substring(i + 1, i + 3), 16));
                i += 2;
            } else {
                b.append(c);
            }
        }
        return b.toString();
    }

    private static List<String> answers(ConflictPlaces x, String text) {
        List<String> answers = new ArrayList<>();
        int rules = Check.read(x, text);
        answers.add("read " + rules);
        if (rules < 0) {
            return answers;
        }
        answers.add("told " + x.told(0) + " " + x.told(1) + " " + x.told(2) + " " + x.told(3));
        addNodesAndRules(x, answers);
        answers.add("fits " + x.fits());
        StringBuilder b = new StringBuilder("conf");
        for (int from = 0; from < rules; from += 3) {
            for (int to = from; to < rules; to += 4) {
                b.append(' ').append(x.conflict(from, to));
            }
        }
        answers.add(b.toString());
        addSets(x, answers);
        addTypes(x, answers);
        addChanges(x, answers);
        return answers;
    }

    private static void addNodesAndRules(ConflictPlaces x, List<String> answers) {
        StringBuilder nodes = new StringBuilder("nodes");
        for (int n = 0; n < x.told(2); n++) {
            nodes.append(' ').append(x.node(n, 0)).append(',').append(x.node(n, 1)).append(',').append(x.node(n, 2));
        }
        answers.add(nodes.toString());
        StringBuilder rules = new StringBuilder("rules");
        for (int r = 0; r < x.told(3); r++) {
            rules.append(' ').append(x.rule(r));
        }
        answers.add(rules.toString());
    }

    private static void addSets(ConflictPlaces x, List<String> answers) {
        for (int i = 0; i < 10000 && x.told(6) == 0; i++) {
            x.search(1 + i % 7);
        }
        answers.add("sets " + x.told(5) + " " + x.told(4));
        for (int s = 0; s < x.told(5); s++) {
            answers.add("set " + Check.setOf(x, s));
            for (int i = 0; i < x.set(s, -1); i++) {
                Check.due("less(" + s + ", " + i + ")", x.less(s, i), 0);
            }
        }
    }

    private static void addTypes(ConflictPlaces x, List<String> answers) {
        int nodes = x.told(2);
        for (int n = 0; n < nodes; n++) {
            answers.add("type " + written(x, x.type(n)));
        }
        for (int b = 11; b < 11 + x.told(1); b++) {
            answers.add("binder " + written(x, x.binder(b)));
        }
        for (int r = 0; r < x.told(3); r++) {
            answers.add("without " + written(x, x.without(r, (r * 7 + 3) % nodes)));
        }
    }

    private static void addChanges(ConflictPlaces x, List<String> answers) {
        int count = x.changes();
        answers.add("changes " + count);
        for (int i = 0; i < count; i++) {
            answers.add("change " + x.change(i, 0) + " " + x.change(i, 1) + " " + x.change(i, 2) + " " + x.change(i, 3));
            for (int b = 11; b < 11 + x.told(1); b++) {
                answers.add("mended " + written(x, x.mended(i, b)));
            }
        }
    }

    private static String written(ConflictPlaces x, int answer) {
        if (answer == Check.NO) {
            return "!NO";
        }
        return answer == Check.FULL ? "!FULL" : Check.written(x, answer);
    }
}
