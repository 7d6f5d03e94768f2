import java.io.IOException;
import java.nio.file.Files;
import java.nio.file.Path;
import java.util.ArrayList;
import java.util.List;

/**
 * Whole texts with every answer that they have, all promises together. The answers in
 * src/test/data/golden.txt are those of a second program of the same author, not kept here, that
 * rewrites the tree for each change and makes its rules anew: it can show slips, but not a wrong
 * reading of the document. Bytes that can't be printed stand there as %xx.
 */
public final class GoldenTest {
    /** The text that the object has read, and the one before it, if there was any. */
    private final String text;
    private final String before;
    private final List<String> answers = new ArrayList<>();

    private GoldenTest(String text, String before) {
        this.text = text;
        this.before = before;
    }

    public static void main(String[] args) throws IOException {
        List<String> lines = Files.readAllLines(Path.of("src/test/data/golden.txt"));
        String before = null;
        int texts = 0;
        for (int from = 0; from < lines.size();) {
            int to = from + 1;
            while (to < lines.size() && !lines.get(to).startsWith("text ")) {
                to++;
            }
            String text = decoded(lines.get(from).substring(5));
            // Some texts come behind another one in the same object.
            compare(new GoldenTest(text, texts % 3 == 0 ? null : before), lines.get(from), lines.subList(from + 1, to));
            before = text;
            texts++;
            from = to;
        }
        Check.due("how many texts", texts, 52);
        Check.end();
    }

    private static void compare(GoldenTest golden, String text, List<String> want) {
        golden.answer();
        List<String> got = golden.answers;
        Check.due("how many answers for " + text, got.size(), want.size());
        for (int i = 0; i < Math.min(got.size(), want.size()); i++) {
            Check.due(text + ", answer " + i, got.get(i), want.get(i));
        }
    }

    private static String decoded(String text) {
        StringBuilder b = new StringBuilder();
        for (int i = 0; i < text.length(); i++) {
            char c = text.charAt(i);
            if (c == '%') {
                b.append((char) Integer.parseInt(text.substring(i + 1, i + 3), 16));
                i += 2;
            } else {
                b.append(c);
            }
        }
        return b.toString();
    }

    /** An object is used for 512 calls at most, so each few answers are those of a new one. */
    private ConflictPlaces fresh() {
        ConflictPlaces x = new ConflictPlaces();
        if (before != null) {
            Check.read(x, before);
            x.changes();
            x.search(2000);
        }
        Check.feed(x, text);
        return x;
    }

    private ConflictPlaces freshlyRead() {
        ConflictPlaces x = fresh();
        x.read();
        return x;
    }

    private void answer() {
        ConflictPlaces x = fresh();
        int rules = x.read();
        answers.add("read " + rules);
        if (rules < 0) {
            return;
        }
        int binders = x.told(1);
        int nodes = x.told(2);
        answers.add("told " + x.told(0) + " " + binders + " " + nodes + " " + x.told(3));
        addNodes(freshlyRead(), nodes);
        addRules(freshlyRead(), rules);
        answers.add("fits " + x.fits());
        addConflicts(rules);
        addSets();
        addTypes(rules, nodes, binders);
        addChanges(binders);
    }

    private void addNodes(ConflictPlaces x, int count) {
        StringBuilder nodes = new StringBuilder("nodes");
        for (int n = 0; n < count; n++) {
            nodes.append(' ').append(x.node(n, 0)).append(',').append(x.node(n, 1)).append(',').append(x.node(n, 2));
        }
        answers.add(nodes.toString());
    }

    private void addRules(ConflictPlaces x, int count) {
        StringBuilder rules = new StringBuilder("rules");
        for (int r = 0; r < count; r++) {
            rules.append(' ').append(x.rule(r));
        }
        answers.add(rules.toString());
    }

    private void addConflicts(int rules) {
        StringBuilder b = new StringBuilder("conf");
        for (int from = 0; from < rules; from += 3) {
            ConflictPlaces x = freshlyRead();
            for (int to = from; to < rules; to += 4) {
                b.append(' ').append(x.conflict(from, to));
            }
        }
        answers.add(b.toString());
    }

    private void addSets() {
        ConflictPlaces x = freshlyRead();
        // Small pieces of WORK first, then as large as they can be.
        for (int i = 0; i < 150 && x.told(6) == 0; i++) {
            x.search(i < 100 ? 1 + i % 7 : 2000);
        }
        int sets = x.told(5);
        answers.add("sets " + sets + " " + x.told(4));
        for (int s = 0; s < sets; s++) {
            ConflictPlaces y = freshlyRead();
            for (int i = 0; i < 20; i++) {
                y.search(2000);
            }
            answers.add("set " + Check.setOf(y, s));
            for (int i = 0; i < x.set(s, -1); i++) {
                Check.due("less(" + s + ", " + i + ")", y.less(s, i), 0);
            }
        }
    }

    private void addTypes(int rules, int nodes, int binders) {
        for (int n = 0; n < nodes; n++) {
            ConflictPlaces x = freshlyRead();
            answers.add("type " + written(x, x.type(n)));
        }
        for (int b = 11; b < 11 + binders; b++) {
            ConflictPlaces x = freshlyRead();
            answers.add("binder " + written(x, x.binder(b)));
        }
        for (int r = 0; r < rules; r++) {
            ConflictPlaces x = freshlyRead();
            answers.add("without " + written(x, x.without(r, (r * 7 + 3) % nodes)));
        }
    }

    private void addChanges(int binders) {
        int count = freshlyRead().changes();
        answers.add("changes " + count);
        for (int i = 0; i < count; i++) {
            ConflictPlaces x = freshlyRead();
            answers.add("change " + x.change(i, 0) + " " + x.change(i, 1) + " " + x.change(i, 2) + " " + x.change(i, 3));
            for (int b = 11; b < 11 + binders; b++) {
                ConflictPlaces y = freshlyRead();
                answers.add("mended " + written(y, y.mended(i, b)));
            }
        }
    }

    private static String written(ConflictPlaces x, int answer) {
        if (answer == Check.NO) {
            return "!NO";
        }
        return answer == Check.FULL ? "!FULL" : Check.written(x, answer);
    }
}
