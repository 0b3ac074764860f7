/** What the tests of boundaries share: calls that hold, calls that are refused, and ways to write them. */
abstract class Bounds {
    static final String INDEX = "IndexOutOfBoundsException";
    static final String ARGUMENT = "IllegalArgumentException";
    static final String STATE = "IllegalStateException";
    static final String NOTHING = "NoSuchElementException";
    static final String UNSUPPORTED = "UnsupportedOperationException";
    static final String ARITHMETIC = "ArithmeticException";
    static final int LOWEST = Integer.MIN_VALUE;
    static final int GREATEST = Integer.MAX_VALUE;

    /** Gives each part of the state a content that a refused call could spoil; the sequence is 000 then. */
    static final String LIVED = "append(0) 1; append(0) 2; save() 2; write() 2; append(0) 3; feed('0') 1; ";

    private static final int PARTS = 20;
    private static String title = "";

    static void begin(String test) {
        title = test;
    }

    /** Calls on a new object, with the answers that are due. */
    static void holds(String... calls) {
        Check.script(title, String.join("", calls));
    }

    /** After some calls on a new object, each of these calls throws the exception and leaves the state as it was. */
    static void refused(String exception, String before, String... calls) {
        holds(before);
        for (String call : calls) {
            for (int part = 0; part < PARTS; part++) {
                Bench bench = new Bench().after(before);
                Check.due(title, call, bench.ask(call), "throws " + exception);
                String want = seen(part, new Bench().after(before));
                Check.due(title, "part " + part + " of the state after the refused " + call, seen(part, bench), want);
            }
        }
    }

    /** To look at the state changes it, so each part is looked at with an object of its own. */
    private static String seen(int part, Bench bench) {
        switch (part) {
            case 0:
                return bench.family();
            case 1:
                return bench.output();
            case 2:
                return bench.input();
            case 3:
                return bench.saved(true);
            case 4:
                return bench.saved(false);
            case 5:
                return bench.work();
            default:
                return bench.undone(part - 6);
        }
    }

    /** The call once for each value, in place of #. */
    static String[] each(String call, int... values) {
        String[] calls = new String[values.length];
        for (int i = 0; i < values.length; i++) {
            calls[i] = call.replace("#", String.valueOf(values[i]));
        }
        return calls;
    }

    static String throwing(String call, String exception) {
        return call + " throws " + exception + "; ";
    }

    static String reading(String digits) {
        return Check.reading(digits);
    }

    static String holding(String digits) {
        return Check.holding(digits);
    }

    static String counted(String call, int from, int to) {
        return Check.counted(call, from, to);
    }

    /** The calls that ask for all elements as they are written, and for the one and the place after the last. */
    static String elements(String... written) {
        StringBuilder calls = new StringBuilder("elementCount() ").append(written.length).append("; ");
        for (int element = 0; element < written.length; element++) {
            for (int i = 0; i < written[element].length(); i++) {
                calls.append("elementAt(").append(element).append(", ").append(i).append(") ").append(written[element].charAt(i))
                        .append("; ");
            }
            calls.append(throwing("elementAt(" + element + ", " + written[element].length() + ")", INDEX));
        }
        return calls.append(throwing("elementAt(" + written.length + ", 0)", INDEX)).toString();
    }

    /** The same question for each index from 0, with the answers that are due. */
    static String answers(String call, int... due) {
        StringBuilder calls = new StringBuilder();
        for (int i = 0; i < due.length; i++) {
            calls.append(call.replace("#", String.valueOf(i))).append(' ').append(due[i]).append("; ");
        }
        return calls.toString();
    }
}
