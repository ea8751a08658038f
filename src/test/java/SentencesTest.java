import java.io.IOException;
import java.lang.reflect.Method;
import java.util.List;
import java.util.Map;
import java.util.TreeSet;

/** Each sentence of the document has a test that quotes it, and no test quotes what is not told. */
public final class SentencesTest {
    private static final List<Class<?>> TESTS =
            List.of(
                    TermsTest.class,
                    MapsTest.class,
                    ViewsTest.class,
                    HistoriesTest.class,
                    WholeTest.class,
                    ModelTest.class);

    // What asks nothing of the class: what is free, and a heading.
    private static final List<String> NOTHING_TO_TEST =
            List.of(
                    "what later calls answer is free",
                    "The class is not thread-safe",
                    "Exceptions");

    public static void main(String[] args) throws IOException {
        Map<Integer, List<String>> told = Document.sentences();
        Check.due("promises, and what stands ahead of them", told.size(), 36);
        for (Map.Entry<Integer, List<String>> part : told.entrySet()) {
            compare(part.getKey(), part.getValue());
        }
        Check.end();
    }

    private static void compare(int promise, List<String> told) {
        TreeSet<String> quotes = quotes(promise, false);
        // What tells of an exception has a test of its own, which is for nothing else.
        TreeSet<String> quotedAlone = quotes(promise, true);
        for (String sentence : told) {
            if (!NOTHING_TO_TEST.contains(sentence)) {
                boolean isThrown = sentence.startsWith("Throws ");
                boolean isTested = (isThrown ? quotedAlone : quotes).contains(sentence);
                Check.holds("promise " + promise + ", a test of: " + sentence, isTested);
            }
        }
        for (String quote : quotes) {
            Check.holds("promise " + promise + " telling: " + quote, told.contains(quote));
        }
    }

    /** What tests quote of a promise; or, of these, what a test quotes alone. */
    private static TreeSet<String> quotes(int promise, boolean isAlone) {
        TreeSet<String> quotes = new TreeSet<>();
        for (Class<?> tests : TESTS) {
            for (Method test : Check.testsOf(tests)) {
                Told of = test.getAnnotation(Told.class);
                if (of.promise() == promise && (!isAlone || of.value().length == 1)) {
                    quotes.addAll(List.of(of.value()));
                }
            }
        }
        return quotes;
    }
}
