import java.io.IOException;
import java.nio.file.Files;
import java.nio.file.Path;
import java.util.ArrayList;
import java.util.List;
import java.util.Map;
import java.util.TreeMap;

/** The sentences of ../shared/DOC.md by section: "What it is", "Description", and "01" to "43" for the promises. */
final class Document {
    static final Path PATH = Path.of("../shared/DOC.md");

    private Document() {
    }

    static Map<String, List<String>> sentences() throws IOException {
        Map<String, List<String>> result = new TreeMap<>();
        for (String section : Files.readString(PATH).split("(?m)^## ")) {
            String title = section.substring(0, Math.max(0, section.indexOf('\n')));
            String body = section.substring(title.length());
            if (title.equals("What it is")) {
                result.put(title, sentencesOf(body));
            } else if (title.equals("Description")) {
                result.put(title, sentencesOf(withoutExamples(body)));
            } else if (title.startsWith("Promise ")) {
                int number = Integer.parseInt(title.substring("Promise ".length(), title.indexOf(':')));
                result.put(String.format("%02d", number), sentencesOf(body));
            }
        }
        return result;
    }

    /** The examples of the description: their calls with results, by their titles. */
    static Map<String, String> examples() throws IOException {
        String text = Files.readString(PATH);
        Map<String, String> result = new TreeMap<>();
        for (String paragraph : text.substring(startOfExamples(text), endOfExamples(text)).split("\n\\s*\n")) {
            String example = paragraph.trim().replaceAll("\\s+", " ");
            int colon = example.indexOf(": ");
            if (colon > 0 && example.endsWith(".")) {
                result.put(example.substring(0, colon), example.substring(colon + 2, example.length() - 1));
            }
        }
        return result;
    }

    private static int startOfExamples(String text) {
        return text.indexOf("\nExamples. ");
    }

    private static int endOfExamples(String text) {
        return text.indexOf("\nThe constants:");
    }

    /** ExamplesTest runs the examples. */
    private static String withoutExamples(String body) {
        return body.substring(0, startOfExamples(body)) + body.substring(endOfExamples(body));
    }

    private static List<String> sentencesOf(String body) {
        List<String> result = new ArrayList<>();
        for (String paragraph : body.split("\n\\s*\n|\n(?=- )")) {
            String text = paragraph.trim().replaceAll("\\s+", " ").replaceFirst("^- ", "");
            for (String sentence : text.split("(?<=\\.) (?=[A-Z])")) {
                boolean isSignature = sentence.matches("`[^`]*`");
                boolean isHeading = sentence.matches("|\\w+\\.|[\\w ]+:|Shown elements\\.|Graph of overlaps\\.|Euler circuits\\.");
                if (!isSignature && !isHeading) {
                    result.add(sentence);
                }
            }
        }
        return result;
    }
}
