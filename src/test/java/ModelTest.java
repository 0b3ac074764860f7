import java.lang.reflect.Method;
import java.util.ArrayList;
import java.util.List;
import java.util.Random;

/** The program against the model: all families one by one, then runs of calls by a fixed seed. */
public final class ModelTest {
    private static final int RUNS = 1500;
    private static final int MOST_CALLS = 512;

    private final UniversalCycles program = new UniversalCycles();
    private final Model model = new Model();
    private final String title;

    private ModelTest(String title) {
        this.title = title;
    }

    private String both(String call) {
        String want = Check.answer(model, call);
        Check.due(title, call, Check.answer(program, call), want);
        return want;
    }

    private int number(String call) {
        return Integer.parseInt(both(call));
    }

    private void compareSequences() {
        int length = number("length()");
        for (int i = -1; i <= length; i++) {
            both("symbolAt(" + i + ")");
        }
    }

    private void compareWindows() {
        for (String name : new String[] {"firstInvalid", "firstRepeat", "firstMissing", "isUniversal", "longestRun",
            "longestRunStart", "distinctSymbols"}) {
            both(name + "()");
        }
        for (int part = -1; part <= 4; part++) {
            both("shownBits(" + part + ")");
        }
        int length = number("length()");
        for (int i = -1; i <= length; i++) {
            both("shownAt(" + i + ")");
        }
        int elements = number("elementCount()");
        for (int i = -1; i <= elements; i++) {
            both("occurrences(" + i + ")");
            both("locate(" + i + ")");
        }
    }

    private void compareGraphs(int elements) {
        String vertices = both("vertexCount()");
        int count = vertices.startsWith("throws") ? 2 : Integer.parseInt(vertices);
        for (int i = -1; i <= elements; i++) {
            both("edgeEnd(" + i + ", false)");
            both("edgeEnd(" + i + ", true)");
            both("circuitEdge(" + i + ")");
        }
        for (int i = -1; i <= count; i++) {
            both("inDegree(" + i + ")");
            both("componentOf(" + i + ")");
            for (int j = -1; j <= count; j++) {
                both("distance(" + i + ", " + j + ")");
            }
        }
        both("circuitCount()");
    }

    private static void compareFamily(int kind, int n, int k) {
        String call = "setFamily(" + kind + ", " + n + ", " + k + ")";
        ModelTest test = new ModelTest(call);
        String answer = test.both(call);
        int elements = test.number("elementCount()");
        for (int i = -1; i <= elements; i++) {
            for (int j = -1; j <= n; j++) {
                test.both("elementAt(" + i + ", " + j + ")");
            }
        }
        if (answer.startsWith("throws")) {
            return;
        }
        test.compareGraphs(elements);
        test.both("useCircuit()");
        test.compareSequences();
        test.compareWindows();
        test.both("clear()");
        test.both("extendGreedily()");
        test.compareSequences();
        test.compareWindows();
        for (int limit : new int[] {1, k, 20, 500, elements > 30 ? 3000 : 30000}) {
            test.both("search(" + limit + ")");
        }
        test.compareSequences();
    }

    /** The exact number of steps as the limit, and one less: where the search ends, found or not. */
    private static void compareLimits() {
        for (String family : new String[] {"0, 2, 2", "0, 1, 1", "0, 5, 1", "1, 3, 3", "1, 3, 4", "3, 2, 2", "3, 2, 3",
            "3, 2, 4", "2, 2, 3", "2, 3, 3", "3, 5, 5", "3, 1, 8", "2, 1, 3", "1, 1, 8"}) {
            for (int limit = 0; limit <= 200; limit++) {
                ModelTest test = new ModelTest("family " + family);
                test.both("setFamily(" + family + ")");
                test.both("search(" + limit + ")");
                test.compareSequences();
            }
        }
    }

    private static final String[] FAMILIES = {"0, 2, 2", "0, 2, 3", "0, 3, 2", "0, 1, 4", "0, 5, 1", "0, 4, 3", "0, 2, 8",
        "0, 5, 2", "1, 3, 4", "1, 3, 6", "1, 4, 6", "1, 4, 8", "1, 5, 8", "1, 2, 3", "1, 1, 2", "2, 2, 3", "2, 2, 4",
        "2, 3, 3", "2, 3, 4", "2, 1, 5", "2, 3, 6", "2, 4, 5", "3, 2, 4", "3, 2, 5", "3, 3, 6", "3, 3, 8", "3, 1, 4",
        "3, 5, 7", "3, 4, 4", "1, 2, 1", "0, 3, 6", "4, 1, 1"};

    private static String argument(Random random, Model model, Method method, int i) {
        String name = method.getName();
        Class<?> type = method.getParameterTypes()[i];
        if (type == boolean.class) {
            return String.valueOf(random.nextBoolean());
        }
        if (type == char.class) {
            return String.valueOf(random.nextInt(30) == 0 ? random.nextInt(70000) % 65536 : '0' + random.nextInt(4));
        }
        if (random.nextInt(60) == 0) {
            int[] far = {Integer.MIN_VALUE, Integer.MAX_VALUE, -1, 240, 200, 8};
            return String.valueOf(far[random.nextInt(far.length)]);
        }
        switch (name) {
            case "append":
            case "exchange":
                return String.valueOf(random.nextInt(4));
            case "setSymbol":
                return String.valueOf(i == 1 ? random.nextInt(4) : random.nextInt(model.length() + 1));
            case "symbolAt":
            case "shownAt":
            case "rotate":
                return String.valueOf(random.nextInt(model.length() + 1));
            case "search":
                return String.valueOf(1 + random.nextInt(300));
            case "shownBits":
                return String.valueOf(random.nextInt(4));
            case "elementAt":
                return String.valueOf(i == 1 ? random.nextInt(4) : random.nextInt(model.elementCount() + 1));
            case "outputAt":
                return String.valueOf(random.nextInt(20));
            default:
                return String.valueOf(random.nextInt(Math.min(20, model.elementCount() + 1)));
        }
    }

    private static String call(Random random, Model model, List<Method> methods) {
        Method method = methods.get(random.nextInt(methods.size()));
        String name = method.getName();
        if (name.equals("setFamily")) {
            return "setFamily(" + FAMILIES[random.nextInt(FAMILIES.length)] + ")";
        }
        List<String> arguments = new ArrayList<>();
        for (int i = 0; i < method.getParameterCount(); i++) {
            arguments.add(argument(random, model, method, i));
        }
        return name + "(" + String.join(", ", arguments) + ")";
    }

    /** Some calls are told more often than others, so that sequences grow and the family stays for a while. */
    private static List<Method> weighted() {
        List<Method> methods = new ArrayList<>();
        for (Method method : UniversalCycles.class.getDeclaredMethods()) {
            if (!java.lang.reflect.Modifier.isPublic(method.getModifiers())) {
                continue;
            }
            int weight = 4;
            switch (method.getName()) {
                case "setFamily":
                case "clear":
                case "restore":
                    weight = 1;
                    break;
                case "append":
                case "feed":
                    weight = 20;
                    break;
                case "undo":
                    weight = 8;
                    break;
                default:
                    break;
            }
            for (int i = 0; i < weight; i++) {
                methods.add(method);
            }
        }
        methods.sort((a, b) -> a.getName().compareTo(b.getName()));
        return methods;
    }

    private static void compareRun(int run, List<Method> methods) {
        Random random = new Random(run);
        ModelTest test = new ModelTest("run " + run);
        int calls = run % 10 == 0 ? MOST_CALLS : 60;
        for (int i = 0; i < calls; i++) {
            test.both(call(random, test.model, methods));
        }
        test.compareSequences();
    }

    public static void main(String[] args) {
        for (int kind = -1; kind <= 4; kind++) {
            for (int n = -1; n <= 6; n++) {
                for (int k = -1; k <= 9; k++) {
                    compareFamily(kind, n, k);
                }
            }
        }
        compareLimits();
        List<Method> methods = weighted();
        for (int run = 0; run < RUNS; run++) {
            compareRun(run, methods);
        }
        Check.end("ModelTest");
    }
}
