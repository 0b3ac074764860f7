import java.lang.reflect.InvocationTargetException;
import java.lang.reflect.Method;
import java.util.ArrayList;
import java.util.List;

/** Runs calls that are written as in the document, "append(1) 1; undo() 0; undo() throws NoSuchElementException". */
final class Check {
    private static int checks = 0;
    private static int wrong = 0;

    private Check() {
    }

    /** A script on a new object. */
    static void script(String title, String calls) {
        Bench bench = new Bench();
        for (String row : rows(calls)) {
            String call = callOf(row);
            due(title, call, bench.ask(call), row.substring(call.length()).trim());
        }
    }

    static List<String> rows(String calls) {
        List<String> rows = new ArrayList<>();
        for (String row : calls.split(";")) {
            if (!row.isBlank()) {
                rows.add(row.trim());
            }
        }
        return rows;
    }

    static String callOf(String row) {
        return row.substring(0, row.indexOf(") ") + 1);
    }

    static void due(String title, String call, String got, String want) {
        checks++;
        if (!got.equals(want)) {
            wrong++;
            System.out.println(title + ": " + call + " answered " + got + ", due is " + want);
        }
    }

    /** The text of the answer, "throws Name" if the call throws: the very class, no class below it. */
    static String answer(Object object, String call) {
        int open = call.indexOf('(');
        String name = call.substring(0, open);
        String inner = call.substring(open + 1, call.length() - 1).trim();
        String[] words = inner.isEmpty() ? new String[0] : inner.split("\\s*,\\s*");
        Method method = methodOf(object.getClass(), name);
        Object[] arguments = new Object[words.length];
        for (int i = 0; i < words.length; i++) {
            arguments[i] = argument(method.getParameterTypes()[i], words[i]);
        }
        return answer(object, method, arguments);
    }

    static String answer(Object object, Method method, Object[] arguments) {
        try {
            return String.valueOf(method.invoke(object, arguments));
        } catch (InvocationTargetException e) {
            return "throws " + e.getCause().getClass().getSimpleName();
        } catch (IllegalAccessException e) {
            throw new AssertionError(e);
        }
    }

    static Method methodOf(Class<?> type, String name) {
        for (Method method : type.getDeclaredMethods()) {
            if (method.getName().equals(name)) {
                return method;
            }
        }
        throw new AssertionError("no method " + name);
    }

    /** A character is written by its sign, 'x', or by its number. */
    private static Object argument(Class<?> type, String word) {
        if (type == boolean.class) {
            return Boolean.valueOf(word);
        }
        if (type == char.class) {
            return word.startsWith("'") ? word.charAt(1) : (char) Integer.parseInt(word);
        }
        return Integer.valueOf(word);
    }

    /** The same call again and again, each answering one more than the last. */
    static String counted(String call, int from, int to) {
        StringBuilder calls = new StringBuilder();
        for (int i = from; i <= to; i++) {
            calls.append(call).append(' ').append(i).append("; ");
        }
        return calls.toString();
    }

    /** The calls that feed a text and read it. */
    static String reading(String digits) {
        StringBuilder calls = new StringBuilder();
        for (int i = 0; i < digits.length(); i++) {
            calls.append("feed('").append(digits.charAt(i)).append("') ").append(i + 1).append("; ");
        }
        return calls.append("read() ").append(digits.length()).append("; ").toString();
    }

    /** The calls that ask for the whole sequence. */
    static String holding(String digits) {
        StringBuilder calls = new StringBuilder("length() ").append(digits.length()).append("; ");
        for (int i = 0; i < digits.length(); i++) {
            calls.append("symbolAt(").append(i).append(") ").append(digits.charAt(i)).append("; ");
        }
        return calls.append("symbolAt(").append(digits.length()).append(") throws IndexOutOfBoundsException; ").toString();
    }

    static void end(String test) {
        System.out.println(test + ": " + checks + " answers, " + wrong + " wrong");
        System.exit(wrong == 0 ? 0 : 1);
    }
}
