import java.io.IOException;
import java.lang.reflect.InvocationTargetException;
import java.lang.reflect.Method;
import java.nio.file.Files;
import java.nio.file.Path;
import java.util.ArrayList;
import java.util.Comparator;
import java.util.List;

/**
 * The sentences of the document that name a boundary case, each with a test of its own: runs every
 * method that bears a Sentence, then looks whether each sentence of the promises is borne by one.
 */
public final class EdgesTest {
    private static final Path DOCUMENT = Path.of("../shared/DOC.md");
    private static final int PROMISES = 18;
    private static final Class<?>[] EDGES = {
        EdgesOfAllCalls.class, EdgesOfNewObject.class, EdgesOfFeed.class, EdgesOfRead.class, EdgesOfFault.class,
        EdgesOfTold.class, EdgesOfNode.class, EdgesOfRule.class, EdgesOfFits.class, EdgesOfConflict.class,
        EdgesOfSearch.class, EdgesOfSet.class, EdgesOfType.class, EdgesOfBinder.class, EdgesOfWithout.class,
        EdgesOfChanges.class, EdgesOfMended.class, EdgesOfOut.class,
    };

    public static void main(String[] args) throws IOException, IllegalAccessException {
        List<Method> tests = tests();
        for (Method test : tests) {
            run(test);
        }
        if (Files.isReadable(DOCUMENT)) {
            holdAgainstDocument(tests, plain(Files.readString(DOCUMENT)));
        } else {
            System.out.println(DOCUMENT + " can't be read: the sentences are not held against it");
        }
        Check.end();
    }

    private static List<Method> tests() {
        List<Method> tests = new ArrayList<>();
        for (Class<?> edges : EDGES) {
            int before = tests.size();
            for (Method method : edges.getDeclaredMethods()) {
                if (method.isAnnotationPresent(Sentence.class)) {
                    tests.add(method);
                }
            }
            Check.due(edges.getName() + " has tests", tests.size() > before ? 1 : 0, 1);
        }
        tests.sort(Comparator.comparingInt((Method m) -> sentence(m).promise()).thenComparing(Method::getName));
        return tests;
    }

    private static Sentence sentence(Method test) {
        return test.getAnnotation(Sentence.class);
    }

    private static void run(Method test) throws IllegalAccessException {
        int before = Check.wrong();
        try {
            test.invoke(null);
        } catch (InvocationTargetException thrown) {
            Check.due("what is thrown", String.valueOf(thrown.getCause()), "nothing");
        }
        int promise = sentence(test).promise();
        String where = promise == 0 ? "all promises" : "promise " + promise;
        String result = Check.wrong() == before ? "ok      " : "FAILED  ";
        System.out.println(result + where + ", " + test.getName() + ": " + sentence(test).says());
    }

    private static void holdAgainstDocument(List<Method> tests, String document) {
        for (Method test : tests) {
            String says = plain(sentence(test).says());
            Check.due("the document says: " + says, document.contains(says) ? 1 : 0, 1);
        }
        for (int promise = 1; promise <= PROMISES; promise++) {
            Check.due("sentences of promise " + promise + " without a test", untested(tests, document, promise), "");
        }
    }

    /** What is left of a promise's words without the sentences that have a test. */
    private static String untested(List<Method> tests, String document, int promise) {
        int heading = document.indexOf("## Promise " + promise + ":");
        int next = document.indexOf("## ", heading + 3);
        int words = document.indexOf("`: ", heading);
        if (heading < 0 || words < 0 || next < words) {
            return "the document has no promise " + promise;
        }
        List<String> said = new ArrayList<>();
        for (Method test : tests) {
            if (sentence(test).promise() == promise) {
                said.add(plain(sentence(test).says()));
            }
        }
        // The longest first: a short sentence can be a part of a longer one.
        said.sort(Comparator.comparingInt(String::length).reversed());
        String left = document.substring(words + 3, next);
        for (String sentence : said) {
            left = left.replace(sentence, "");
        }
        return plain(left);
    }

    private static String plain(String text) {
        return text.replaceAll("\\s+", " ").trim();
    }
}
