import java.lang.reflect.Method;
import java.lang.reflect.Modifier;
import java.nio.file.Files;
import java.nio.file.Path;
import java.util.ArrayList;
import java.util.Comparator;
import java.util.List;

/**
 * Runs the tests of single sentences, each for itself, and looks whether together they quote every word of the
 * promises and of the terms.
 */
public final class SentencesTest {
    private static final int PROMISES = 40;
    private static final Class<?>[] GROUPS = {EdgesOfTheTable.class, EdgesOfChips.class, EdgesOfTexts.class,
        EdgesOfMinors.class, EdgesOfSeen.class, EdgesOfEvents.class, EdgesOfTheImage.class, EdgesOfTapes.class};

    public static void main(String[] args) throws Exception {
        Path file = Path.of(System.getProperty("document"));
        // Where the document isn't at hand the tests run all the same; only their quotes can't be looked up.
        Document document = Files.exists(file) ? Document.read(file) : null;
        Due all = new Due("SentencesTest");
        int[] tests = new int[PROMISES + 1];
        for (Class<?> group : GROUPS) {
            for (Method test : testsOf(group)) {
                tests[run(test, document, all)]++;
            }
        }
        for (int promise = 1; promise <= PROMISES; promise++) {
            System.out.println("promise " + promise + ": " + tests[promise] + " tests of sentences");
            all.holds("promise " + promise + " has tests", tests[promise] > 0);
        }
        if (document == null) {
            System.out.println("SentencesTest: no document at " + file);
        } else {
            everyWordIsQuoted(document, all);
        }
        all.end();
    }

    private static void everyWordIsQuoted(Document document, Due all) {
        for (String words : document.unquoted()) {
            all.holds("a test quotes " + words, false);
        }
    }

    private static List<Method> testsOf(Class<?> group) {
        List<Method> tests = new ArrayList<>();
        for (Method m : group.getDeclaredMethods()) {
            if (!Modifier.isPrivate(m.getModifiers())) {
                tests.add(m);
            }
        }
        tests.sort(Comparator.comparing(Method::getName));
        return tests;
    }

    /** Runs a test: the promise that it is of, 0 if it names none. */
    private static int run(Method test, Document document, Due all) throws Exception {
        Sentence sentence = test.getAnnotation(Sentence.class);
        int promise = sentence == null ? 0 : sentence.promise();
        all.holds(test + " names a promise", promise >= 1 && promise <= PROMISES);
        if (promise < 1 || promise > PROMISES) {
            return 0;
        }
        String name = "promise " + promise + ", " + test.getName() + ", \"" + String.join("\", \"", sentence.words()) + "\"";
        for (String words : sentence.words()) {
            all.holds(name + " quotes what is there: " + words, document == null || document.quote(promise, words));
        }
        Due due = new Due(name);
        test.invoke(null, due);
        all.holds(name + " holds", due.allRight());
        return promise;
    }
}
