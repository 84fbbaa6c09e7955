import java.io.IOException;
import java.lang.reflect.Method;
import java.nio.file.Files;
import java.nio.file.Path;
import java.util.Set;
import java.util.TreeSet;

/** Each sentence that a test stands for is one of the document, and each promise has a test. */
public final class QuotesTest {
    private static final Path DOCUMENT = Path.of("../shared/DOC.md");
    private static final int PROMISES = 38;
    private static final Class<?>[] EDGES = {
        TermsEdges.class, SetupEdges.class, PlacingEdges.class, BargainEdges.class, OwnerEdges.class,
        BookingEdges.class, ActEdges.class, LookEdges.class, SavedEdges.class,
    };

    private QuotesTest() {
    }

    public static void main(String[] args) throws IOException {
        Checks c = new Checks("QuotesTest");
        // Without the document beside the project only the numbers of the promises are looked at.
        boolean isThere = Files.isReadable(DOCUMENT);
        String document = isThere ? plain(Files.readString(DOCUMENT)) : "";
        Set<Integer> met = new TreeSet<>();
        for (Class<?> edges : EDGES) {
            for (Method method : edges.getDeclaredMethods()) {
                Says says = method.getAnnotation(Says.class);
                if (says != null) {
                    met.add(says.promise());
                    boolean isQuote = !isThere || sectionOf(document, says.promise()).contains(plain(says.value()));
                    c.due("the document says: " + says.value(), isQuote, true);
                }
            }
        }
        for (int promise = 0; promise <= PROMISES; promise++) {
            c.due("there is a test for promise " + promise, met.contains(promise), true);
        }
        c.end();
    }

    private static String plain(String text) {
        return text.replaceAll("\\s+", " ");
    }

    /** The section of a promise; for 0 all that stands ahead of the first one. */
    private static String sectionOf(String document, int promise) {
        int start = promise == 0 ? 0 : document.indexOf("## Promise " + promise + ":");
        int end = document.indexOf("## Promise " + (promise + 1) + ":");
        return start < 0 ? "" : document.substring(start, end < 0 ? document.length() : end);
    }
}
