/** A new object that counts its calls, since the document promises nothing after the 512th. */
final class Bench {
    private static final int MOST_CALLS = 512;

    private final UniversalCycles object = new UniversalCycles();
    private int calls;

    String ask(String call) {
        calls++;
        if (calls > MOST_CALLS) {
            throw new AssertionError("more than " + MOST_CALLS + " calls");
        }
        return Check.answer(object, call);
    }

    /** Makes the calls of a script, whatever they answer. */
    Bench after(String script) {
        for (String row : Check.rows(script)) {
            ask(Check.callOf(row));
        }
        return this;
    }

    private static boolean isThrown(String answer) {
        return answer.startsWith("throws");
    }

    String sequence() {
        StringBuilder seen = new StringBuilder();
        int length = Integer.parseInt(ask("length()"));
        for (int i = 0; i < length; i++) {
            seen.append(ask("symbolAt(" + i + ")"));
        }
        return seen.toString();
    }

    /** The symbols are tried from above: those beyond the family are refused, and the greatest one ends this. */
    String family() {
        StringBuilder seen = new StringBuilder();
        int last = Integer.parseInt(ask("elementCount()")) - 1;
        for (int element : new int[] {0, last / 2, last}) {
            for (int i = 0; i <= 5; i++) {
                seen.append(ask("elementAt(" + element + ", " + i + ")")).append(' ');
            }
        }
        seen.append(ask("vertexCount()")).append(' ').append(ask("edgeEnd(" + last + ", true)")).append(' ');
        seen.append(ask("circuitEdge(" + last + ")")).append(' ');
        int symbol = 8;
        while (ask("append(" + symbol + ")").equals("throws IllegalArgumentException")) {
            symbol--;
        }
        return seen.append(symbol).toString();
    }

    String output() {
        StringBuilder seen = new StringBuilder();
        for (int i = 0; i <= 240; i++) {
            String answer = ask("outputAt(" + i + ")");
            if (isThrown(answer)) {
                return seen.toString();
            }
            seen.append(answer);
        }
        return seen.toString();
    }

    /** The family with all eight digits is set first, so that a text of any family can be read. */
    String input() {
        ask("setFamily(0, 1, 8)");
        String answer = ask("read()");
        return answer + " " + sequence();
    }

    String saved(boolean isFamily) {
        String answer = ask("restore()");
        return isThrown(answer) ? answer : isFamily ? family() : sequence();
    }

    /** Calls that work on rows of their own, which a refused call may have left half filled. */
    String work() {
        StringBuilder seen = new StringBuilder();
        for (String call : new String[] {"occurrences(0)", "shownBits(0)", "longestRunStart()", "componentOf(1)", "distance(1, 0)",
            "circuitCount()", "extendGreedily()", "useCircuit()", "search(40)"}) {
            seen.append(ask(call)).append(' ').append(ask("write()")).append(' ');
            seen.append(ask("outputAt(1)")).append(ask("outputAt(5)")).append(' ');
        }
        return seen.toString();
    }

    String undone(int times) {
        String answer = "";
        for (int i = 0; i < times; i++) {
            answer = ask("undo()");
        }
        return answer + " " + sequence();
    }
}
