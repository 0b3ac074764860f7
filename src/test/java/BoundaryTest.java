import java.io.IOException;
import java.lang.reflect.InvocationTargetException;
import java.lang.reflect.Method;
import java.util.Arrays;
import java.util.List;
import java.util.Map;
import java.util.TreeSet;

/** Runs the tests of boundaries, and looks whether each sentence of the document has a test that quotes it. */
public final class BoundaryTest {
    private static final Class<?>[] GROUPS = {FamilyBounds.class, SequenceBounds.class, TextBounds.class, WindowBounds.class,
        ChangeBounds.class, SearchBounds.class, GraphBounds.class, CircuitBounds.class, SavingBounds.class, DescriptionBounds.class};

    private static final int NAME_OF_PROMISE = "promise".length();

    /** What no call can show. */
    private static final List<String> UNTESTED = List.of(
            "A workbench for universal cycles: cyclic sequences of symbols in which each element of a family (all words, all order patterns "
            + "of permutations, all arrangements, or all subsets) is shown by exactly one window of fixed length.",
            "De Bruijn sequences are the best known case.",
            "The class checks a sequence against a family, finds where an element is shown, extends sequences greedily, searches for the "
            + "lexicographically lowest universal cycle, and builds universal cycles from Euler circuits in the graph of overlaps.",
            "The class is not thread-safe.",
            "The constructor and the methods follow, a promise each: the signature, then what it does.");

    private final Map<String, List<String>> document;
    private final TreeSet<String> quoted = new TreeSet<>();

    private BoundaryTest(Map<String, List<String>> document) {
        this.document = document;
    }

    private static String sectionOf(String test) {
        return test.startsWith("description") ? "Description" : test.substring(NAME_OF_PROMISE, NAME_OF_PROMISE + 2);
    }

    /** A test of a promise may quote the description too. */
    private void quote(String test, String sentence) {
        boolean isFound = false;
        for (String section : new String[] {sectionOf(test), "Description", "What it is"}) {
            if (document.get(section).contains(sentence)) {
                quoted.add(section + " " + sentence);
                isFound = true;
            }
        }
        Check.due(test, "quotes the document: " + sentence, String.valueOf(isFound), "true");
    }

    private void run(Method test) throws IllegalAccessException, InvocationTargetException {
        Bounds.begin(test.getName());
        test.invoke(null);
        for (String sentence : test.getAnnotation(Sentence.class).value()) {
            quote(test.getName(), sentence);
        }
    }

    private int runAll() throws IllegalAccessException, InvocationTargetException {
        int tests = 0;
        for (Class<?> group : GROUPS) {
            Method[] methods = group.getDeclaredMethods();
            Arrays.sort(methods, (a, b) -> a.getName().compareTo(b.getName()));
            for (Method method : methods) {
                if (method.isAnnotationPresent(Sentence.class)) {
                    run(method);
                    tests++;
                } else {
                    Check.due(group.getName(), method.getName() + " is a test without a sentence",
                            String.valueOf(method.getName().matches("(promise|description).*")), "false");
                }
            }
        }
        return tests;
    }

    private void missing() {
        for (Map.Entry<String, List<String>> section : document.entrySet()) {
            for (String sentence : section.getValue()) {
                boolean isTested = quoted.contains(section.getKey() + " " + sentence) || UNTESTED.contains(sentence);
                Check.due(section.getKey(), "has a test of: " + sentence, String.valueOf(isTested), "true");
            }
        }
    }

    public static void main(String[] args) throws IOException, ReflectiveOperationException {
        BoundaryTest all = new BoundaryTest(Document.sentences());
        Check.due("the document", "sections", String.valueOf(all.document.size()), "45");
        System.out.println(all.runAll() + " tests of boundaries");
        all.missing();
        Check.end("BoundaryTest");
    }
}
