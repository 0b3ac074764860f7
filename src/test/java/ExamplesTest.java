import java.io.IOException;
import java.util.Map;

/** The examples of the document's "Description", taken from the document itself. */
public final class ExamplesTest {
    public static void main(String[] args) throws IOException {
        int calls = 0;
        for (Map.Entry<String, String> example : Document.examples().entrySet()) {
            Check.script(example.getKey(), example.getValue());
            calls += Check.rows(example.getValue()).size();
        }
        // Counted by hand, so that no example is lost on the way from the document.
        Check.due("the examples", "how many", String.valueOf(Document.examples().size()), "6");
        Check.due("the examples", "how many calls", String.valueOf(calls), "57");
        Check.end("ExamplesTest");
    }
}
