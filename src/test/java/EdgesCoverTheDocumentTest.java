import java.io.IOException;
import java.lang.reflect.Method;
import java.nio.file.Files;
import java.nio.file.Path;
import java.util.ArrayList;
import java.util.List;

/** Each edge quotes the document as it is, and none of what the document says of an edge is left without a test. */
public final class EdgesCoverTheDocumentTest {

    private static final Path DOCUMENT = Path.of("../shared/DOC.md");
    private static final int PROMISES = 31;

    private static final Class<?>[] TESTS = {
        EdgesOfNamesAndRecordsTest.class, EdgesOfLayingTest.class, EdgesOfCopiesAndReadersTest.class,
        EdgesOfLoansTest.class, EdgesOfWaitingAndDaysTest.class, EdgesOfWhatWouldBeTest.class,
        EdgesOfRefusedCallsTest.class,
    };

    private final String[] sections = new String[PROMISES + 1];
    private final List<List<String>> quotes = new ArrayList<>();

    private EdgesCoverTheDocumentTest(String document) {
        int start = 0;
        for (int promise = 0; promise <= PROMISES; promise++) {
            String next = promise < PROMISES ? "## Promise " + (promise + 1) + ":" : "## Not promised";
            int end = document.indexOf(next);
            Check.holds("the document has " + next, end >= start);
            sections[promise] = document.substring(start, Math.max(start, end));
            start = Math.max(start, end);
            quotes.add(new ArrayList<>());
        }
    }

    public static void main(String[] args) throws IOException {
        if (Files.notExists(DOCUMENT)) {
            System.out.println("EdgesCoverTheDocumentTest: there is no " + DOCUMENT + " to lay the tests beside");
            return;
        }
        EdgesCoverTheDocumentTest cover = new EdgesCoverTheDocumentTest(Files.readString(DOCUMENT));
        cover.gather();
        cover.eachPromiseHasTests();
        cover.eachSentenceOfTheTermsHasATest();
        Check.end("EdgesCoverTheDocumentTest");
    }

    private void gather() {
        for (Class<?> tests : TESTS) {
            for (Method test : Edges.of(tests)) {
                Edge edge = test.getAnnotation(Edge.class);
                for (String words : edge.words()) {
                    Check.holds("promise " + edge.promise() + " says: " + words,
                            plain(sections[edge.promise()]).contains(words));
                    quotes.get(edge.promise()).add(words);
                }
            }
        }
    }

    /** What a call returns and what it throws stand in lines of their own. */
    private void eachPromiseHasTests() {
        for (int promise = 1; promise <= PROMISES; promise++) {
            Check.holds("promise " + promise + " has a test", !quotes.get(promise).isEmpty());
            for (String line : sections[promise].split("\n")) {
                if (line.startsWith("Throws ")) {
                    Check.holds("promise " + promise + " has a test of: " + line, isQuoted(promise, line));
                }
            }
        }
    }

    private void eachSentenceOfTheTermsHasATest() {
        String terms = sections[Edge.TERMS].substring(sections[Edge.TERMS].indexOf("== 1. Names"));
        for (String line : terms.split("\n")) {
            boolean heading = line.startsWith("== ") || line.startsWith("Ahead of the calls ");
            for (String sentence : line.split("(?<=\\.) (?=[A-Z])")) {
                Check.holds("the terms have a test of: " + sentence,
                        heading || sentence.isBlank() || isQuoted(Edge.TERMS, sentence));
            }
        }
    }

    private boolean isQuoted(int promise, String text) {
        for (String words : quotes.get(promise)) {
            if (plain(text).contains(words)) {
                return true;
            }
        }
        return false;
    }

    private static String plain(String text) {
        return text.replaceAll("\\s+", " ");
    }
}
