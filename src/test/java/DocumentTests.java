import java.lang.reflect.Method;
import java.nio.file.Files;
import java.nio.file.Path;
import java.util.ArrayList;
import java.util.List;

/** Each sentence of the "Terms" and each line of a promise on what it takes, returns and throws has a test that quotes it. */
public final class DocumentTests {
    private static final Path DOCUMENT = Path.of("..", "shared", "DOC.md");
    private static final List<Class<?>> TESTS = List.of(TermsTests.class, ReasonTests.class, TextTests.class,
        BoundsTests.class, MoreBoundsTests.class);
    private static final int PROMISES = 40;
    /** What stands in the "Terms" without saying anything that could be tested. */
    private static final String TITLES = "Terms|Hours and crowd\\.|Pitches\\.|Buskers\\.|Waiting and drawing\\.|Noise\\."
        + "|An hour goes by\\.|Strings and complaints\\.|Cases\\.|Texts\\.|Reasons\\.|Undo\\.|Exceptions\\."
        + "|In doubt, too\\.|Ahead of the calls [^:]* the interface says: [^.]*\\.";

    public static void main(String[] args) throws Exception {
        String[] sections = Files.readString(DOCUMENT).split("\n## ");
        for (String section : sections) {
            if (section.startsWith("What it is")) {
                checkQuotes(-1, section);
            } else if (section.startsWith("Terms")) {
                checkTerms(section);
            } else if (section.startsWith("Promise ")) {
                checkPromise(section);
            }
        }
        Check.same("promises in the document", PROMISES, promises(sections));
        Check.end("DocumentTests");
    }

    private static int promises(String[] sections) {
        int count = 0;
        for (String section : sections) {
            count += section.startsWith("Promise ") ? 1 : 0;
        }
        return count;
    }

    private static List<String> quotes(int promise) {
        List<String> quotes = new ArrayList<>();
        for (Class<?> tests : TESTS) {
            for (Method method : tests.getDeclaredMethods()) {
                Says says = method.getAnnotation(Says.class);
                if (says != null && says.promise() == promise) {
                    quotes.addAll(List.of(says.value()));
                }
            }
        }
        // The longest first, so that no quote is cut out of a longer one.
        quotes.sort((a, b) -> b.length() - a.length());
        return quotes;
    }

    private static String plain(String text) {
        return text.replaceAll("\\s+", " ").trim();
    }

    /** There are quotes, and each stands in the section. */
    private static void checkQuotes(int promise, String section) {
        List<String> quotes = quotes(promise);
        Check.isTrue("promise " + promise + " has a test", !quotes.isEmpty());
        for (String quote : quotes) {
            Check.isTrue("in promise " + promise + ": " + quote, plain(section).contains(quote));
        }
    }

    private static void checkTerms(String section) {
        checkQuotes(0, section);
        String left = plain(section);
        for (String quote : quotes(0)) {
            left = left.replace(quote, "|");
        }
        left = left.replaceAll("(?<=^|[| ])(" + TITLES + ")(?=$|[| ])", "").replaceAll("[| ]+", " ").trim();
        Check.sameText("the terms without a test", "", left);
    }

    private static void checkPromise(String section) {
        int promise = Integer.parseInt(section.replaceAll("(?s)Promise (\\d+):.*", "$1"));
        checkQuotes(promise, section);
        List<String> quotes = quotes(promise);
        for (String line : section.split("\n")) {
            if (line.startsWith("Throws ") || line.startsWith("Returns ") || line.startsWith("- `")) {
                checkLine(promise, line, quotes);
            }
        }
    }

    private static void checkLine(int promise, String line, List<String> quotes) {
        boolean isQuoted = false;
        for (String quote : quotes) {
            isQuoted = isQuoted || quote.contains(plain(line));
        }
        Check.isTrue("a test for promise " + promise + ": " + line, isQuoted);
    }
}
