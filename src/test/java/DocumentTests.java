import java.io.IOException;
import java.lang.reflect.Method;
import java.nio.file.Files;
import java.nio.file.Path;
import java.util.ArrayList;
import java.util.HashMap;
import java.util.List;
import java.util.Map;
import java.util.Set;
import java.util.TreeSet;

/** The document's sentences against those that the tests quote: none may be without a test, nor be made up. */
final class DocumentTests {
    private static final Path DOCUMENT = Path.of("../shared/DOC.md");

    /** Of no promise, but of what the document says ahead of them. */
    private static final int TERMS = 0;
    private static final String USES =
        "An object is used for at most 512 calls after it has been made; what later calls answer is free.";

    private DocumentTests() {
    }

    static void allSentencesHaveATest() throws IOException {
        Set<String> without = new TreeSet<>();
        for (Map.Entry<Integer, Set<String>> part : sentencesOfTheDocument().entrySet()) {
            Set<String> rest = new TreeSet<>(part.getValue());
            for (Method test : quotingTests()) {
                if (part.getKey() == TERMS || part.getKey() == promiseOf(test)) {
                    rest.remove(test.getAnnotation(Sentence.class).value());
                }
            }
            for (String sentence : rest) {
                without.add(part.getKey() + ": " + sentence);
            }
        }
        require(without.isEmpty(), "no test quotes " + without);
    }

    static void allQuotedSentencesStandInTheDocument() throws IOException {
        Map<Integer, Set<String>> document = sentencesOfTheDocument();
        for (Method test : quotingTests()) {
            String quote = test.getAnnotation(Sentence.class).value();
            boolean stands = document.get(TERMS).contains(quote) || document.get(promiseOf(test)).contains(quote);
            require(stands, test.getName() + " quotes what is not in the document: " + quote);
        }
    }

    static void allTestsSentenceBySentenceQuoteOne() {
        int quoting = 0;
        for (Class<?> tests : AllTests.CLASSES) {
            if (Sentences.class.isAssignableFrom(tests)) {
                for (Method test : AllTests.testsOf(tests)) {
                    require(test.isAnnotationPresent(Sentence.class), test.getName() + " quotes a sentence");
                    quoting++;
                }
            }
        }
        require(quoting == quotingTests().size(), "no other tests quote");
    }

    private static List<Method> quotingTests() {
        List<Method> quoting = new ArrayList<>();
        for (Class<?> tests : AllTests.CLASSES) {
            for (Method test : AllTests.testsOf(tests)) {
                if (test.isAnnotationPresent(Sentence.class)) {
                    quoting.add(test);
                }
            }
        }
        return quoting;
    }

    private static int promiseOf(Method test) {
        return Integer.parseInt(test.getName().substring(7, 9));
    }

    /** By the number of the promise, or TERMS. */
    private static Map<Integer, Set<String>> sentencesOfTheDocument() throws IOException {
        Map<Integer, Set<String>> found = new HashMap<>();
        found.put(TERMS, new TreeSet<>(Set.of(USES)));
        String part = "";
        for (String line : Files.readAllLines(DOCUMENT)) {
            if (line.startsWith("## ")) {
                part = line;
            } else if (!line.isEmpty() && !line.startsWith("#") && !line.startsWith("Ahead of the calls")) {
                if (part.equals("## Terms")) {
                    addSentences(line, found.get(TERMS));
                } else if (part.startsWith("## Promise ")) {
                    int promise = Integer.parseInt(part.substring(11, part.indexOf(':')));
                    addSentences(withoutItsHead(line), found.computeIfAbsent(promise, p -> new TreeSet<>()));
                }
            }
        }
        require(found.size() == 1 + AllTests.PROMISES, "the document has all its promises: " + found.keySet());
        return found;
    }

    /** Behind the declaration of a call, and behind the dash ahead of what it takes. */
    private static String withoutItsHead(String line) {
        if (line.startsWith("- ")) {
            return line.substring(2);
        }
        return line.startsWith("`") ? line.substring(line.indexOf("`: ") + 3) : line;
    }

    private static void addSentences(String text, Set<String> sentences) {
        for (String sentence : text.split("(?<=\\.) (?=[A-Z])")) {
            sentences.add(sentence);
        }
    }

    private static void require(boolean holds, String what) {
        if (!holds) {
            throw new AssertionError("not so: " + what);
        }
    }
}
