import java.math.BigInteger;
import java.util.ArrayDeque;
import java.util.ArrayList;
import java.util.Arrays;
import java.util.Collections;
import java.util.HashMap;
import java.util.HashSet;
import java.util.LinkedList;
import java.util.List;
import java.util.Map;
import java.util.NoSuchElementException;
import java.util.Set;
import java.util.TreeSet;

/** The document once more, as plainly and slowly as it goes, with none of the program's ways: the tests compare. */
final class Model {
    private int kind;
    private int n;
    private int k;
    private List<List<Integer>> elements;
    private List<List<Integer>> vertices;
    private final Map<List<Integer>, Integer> numbers = new HashMap<>();
    private int[][] distances;
    private List<Integer> circuit;
    private List<Integer> sequence = new ArrayList<>();
    private final ArrayDeque<List<Integer>> history = new ArrayDeque<>();
    private String input = "";
    private String output = "";
    private int[] savedFamily;
    private List<Integer> savedSequence;

    Model() {
        setFamily(0, 2, 2);
    }

    private static List<List<Integer>> all(int kind, int n, int k) {
        List<List<Integer>> result = new ArrayList<>();
        if (n == 0) {
            result.add(new ArrayList<>());
            return result;
        }
        for (List<Integer> shorter : all(kind, n - 1, k)) {
            for (int s = 0; s < k; s++) {
                boolean fits = kind == 0 || !shorter.contains(s);
                if (kind == 3 && n > 1 && shorter.get(n - 2) > s) {
                    fits = false;
                }
                if (fits) {
                    List<Integer> longer = new ArrayList<>(shorter);
                    longer.add(s);
                    result.add(longer);
                }
            }
        }
        result.sort((a, b) -> a.toString().compareTo(b.toString()));
        return result;
    }

    public int setFamily(int newKind, int newN, int newK) {
        if (newKind < 0 || newKind > 3 || newN < 1 || newN > 5 || newK < 1 || newK > 8) {
            throw new IllegalArgumentException();
        }
        if (newKind != 0 && newN > newK) {
            throw new IllegalArgumentException();
        }
        List<List<Integer>> found = newKind == 1 ? all(2, newN, newN) : all(newKind, newN, newK);
        if (found.size() > 200) {
            throw new IllegalArgumentException();
        }
        kind = newKind;
        n = newN;
        k = newK;
        elements = found;
        numbers.clear();
        for (int i = 0; i < found.size(); i++) {
            numbers.put(found.get(i), i);
        }
        vertices = newKind == 1 ? all(2, n - 1, n - 1) : all(newKind, n - 1, newK);
        distances = null;
        circuit = null;
        sequence = new ArrayList<>();
        history.clear();
        return elements.size();
    }

    public int elementCount() {
        return elements.size();
    }

    private void element(int element) {
        if (element < 0 || element >= elements.size()) {
            throw new IndexOutOfBoundsException();
        }
    }

    private void position(int position) {
        if (position < 0 || position >= sequence.size()) {
            throw new IndexOutOfBoundsException();
        }
    }

    private void symbol(int symbol) {
        if (symbol < 0 || symbol >= k) {
            throw new IllegalArgumentException();
        }
    }

    private void replace(List<Integer> other) {
        history.addLast(sequence);
        if (history.size() > 12) {
            history.removeFirst();
        }
        sequence = new ArrayList<>(other);
    }

    public int elementAt(int element, int i) {
        element(element);
        if (i < 0 || i >= n) {
            throw new IndexOutOfBoundsException();
        }
        return elements.get(element).get(i);
    }

    public int append(int symbol) {
        symbol(symbol);
        if (sequence.size() == 240) {
            throw new IllegalStateException();
        }
        replace(sequence);
        sequence.add(symbol);
        return sequence.size();
    }

    public int setSymbol(int position, int symbol) {
        position(position);
        symbol(symbol);
        replace(sequence);
        return sequence.set(position, symbol);
    }

    public int symbolAt(int position) {
        position(position);
        return sequence.get(position);
    }

    public int length() {
        return sequence.size();
    }

    public int clear() {
        int removed = sequence.size();
        replace(new ArrayList<>());
        return removed;
    }

    public int undo() {
        if (history.isEmpty()) {
            throw new NoSuchElementException();
        }
        sequence = history.removeLast();
        return sequence.size();
    }

    public int feed(char letter) {
        if (input.length() == 240) {
            throw new IllegalStateException();
        }
        input = input + letter;
        return input.length();
    }

    public int read() {
        String text = input;
        input = "";
        List<Integer> found = new ArrayList<>();
        for (int i = 0; i < text.length(); i++) {
            int digit = "01234567".substring(0, k).indexOf(text.charAt(i));
            if (digit < 0) {
                return -100 - i;
            }
            found.add(digit);
        }
        replace(found);
        return found.size();
    }

    public int write() {
        StringBuilder text = new StringBuilder();
        sequence.forEach(text::append);
        output = text.toString();
        return output.length();
    }

    public char outputAt(int i) {
        if (i < 0 || i >= output.length()) {
            throw new IndexOutOfBoundsException();
        }
        return output.charAt(i);
    }

    private static List<Integer> pattern(List<Integer> window) {
        List<Integer> result = new ArrayList<>();
        for (int symbol : window) {
            result.add((int) window.stream().filter(other -> other < symbol).count());
        }
        return result;
    }

    private int shownBy(List<Integer> window) {
        if (kind == 0) {
            return numbers.get(window);
        }
        if (new HashSet<>(window).size() < window.size()) {
            return -1;
        }
        List<Integer> shown = new ArrayList<>(window);
        if (kind == 1) {
            shown = pattern(window);
        }
        if (kind == 3) {
            Collections.sort(shown);
        }
        return numbers.get(shown);
    }

    private int shown(List<Integer> cycle, int position) {
        List<Integer> window = new ArrayList<>();
        for (int i = 0; i < n; i++) {
            window.add(cycle.get((position + i) % cycle.size()));
        }
        return shownBy(window);
    }

    private List<Integer> allShown() {
        List<Integer> result = new ArrayList<>();
        for (int i = 0; i < sequence.size(); i++) {
            result.add(shown(sequence, i));
        }
        return result;
    }

    public int shownAt(int position) {
        position(position);
        return shown(sequence, position);
    }

    public int occurrences(int element) {
        element(element);
        return Collections.frequency(allShown(), element);
    }

    public int locate(int element) {
        element(element);
        int found = allShown().indexOf(element);
        if (found < 0) {
            throw new NoSuchElementException();
        }
        return found;
    }

    public int firstInvalid() {
        return allShown().indexOf(-1);
    }

    public int firstRepeat() {
        List<Integer> shown = allShown();
        for (int i = 0; i < shown.size(); i++) {
            if (shown.get(i) != -1 && shown.subList(0, i).contains(shown.get(i))) {
                return i;
            }
        }
        return -1;
    }

    public int firstMissing() {
        List<Integer> shown = allShown();
        for (int i = 0; i < elements.size(); i++) {
            if (!shown.contains(i)) {
                return i;
            }
        }
        return -1;
    }

    public boolean isUniversal() {
        List<Integer> shown = allShown();
        for (int i = 0; i < elements.size(); i++) {
            if (Collections.frequency(shown, i) != 1) {
                return false;
            }
        }
        return !shown.contains(-1);
    }

    public long shownBits(int part) {
        if (part < 0 || part > 3) {
            throw new IllegalArgumentException();
        }
        long bits = 0;
        for (int element : allShown()) {
            if (element >= 50 * part && element < 50 * part + 50) {
                bits |= 1L << (element - 50 * part);
            }
        }
        return bits;
    }

    private int runFrom(List<Integer> shown, int start) {
        Set<Integer> held = new HashSet<>();
        held.add(-1);
        int size = 0;
        while (size < shown.size() && held.add(shown.get((start + size) % shown.size()))) {
            size++;
        }
        return size;
    }

    public int longestRun() {
        List<Integer> shown = allShown();
        int longest = 0;
        for (int start = 0; start < shown.size(); start++) {
            longest = Math.max(longest, runFrom(shown, start));
        }
        return longest;
    }

    public int longestRunStart() {
        if (sequence.isEmpty()) {
            throw new IllegalStateException();
        }
        int longest = longestRun();
        List<Integer> shown = allShown();
        int start = 0;
        while (runFrom(shown, start) < longest) {
            start++;
        }
        return start;
    }

    public int distinctSymbols() {
        return new HashSet<>(sequence).size();
    }

    public int compress() {
        List<Integer> different = new ArrayList<>(new TreeSet<>(sequence));
        List<Integer> found = new ArrayList<>();
        for (int symbol : sequence) {
            found.add(different.indexOf(symbol));
        }
        replace(found);
        return different.size();
    }

    private List<Integer> rotated(int position) {
        List<Integer> found = new ArrayList<>(sequence);
        Collections.rotate(found, -position);
        return found;
    }

    public int rotate(int position) {
        position(position);
        int first = sequence.get(0);
        replace(rotated(position));
        return first;
    }

    public int rotateToLowest() {
        if (sequence.isEmpty()) {
            throw new IllegalStateException();
        }
        int best = 0;
        for (int i = 1; i < sequence.size(); i++) {
            if (rotated(i).toString().compareTo(rotated(best).toString()) < 0) {
                best = i;
            }
        }
        replace(rotated(best));
        return best;
    }

    public int reverse() {
        List<Integer> found = new ArrayList<>(sequence);
        Collections.reverse(found);
        replace(found);
        return found.size();
    }

    public int complement() {
        List<Integer> found = new ArrayList<>(sequence);
        found.replaceAll(symbol -> k - 1 - symbol);
        replace(found);
        return found.size();
    }

    public int exchange(int first, int second) {
        symbol(first);
        symbol(second);
        List<Integer> found = new ArrayList<>(sequence);
        found.replaceAll(symbol -> symbol == first ? (Integer) second : symbol == second ? (Integer) first : symbol);
        int positions = (int) sequence.stream().filter(symbol -> symbol == first || symbol == second).count();
        replace(found);
        return positions;
    }

    public int extendGreedily() {
        List<Integer> found = new ArrayList<>(sequence);
        while (found.size() < 240) {
            if (found.size() + 1 < n) {
                found.add(0);
                continue;
            }
            Set<Integer> earlier = new HashSet<>();
            for (int i = 0; i + n <= found.size(); i++) {
                earlier.add(shownBy(found.subList(i, i + n)));
            }
            earlier.add(-1);
            int symbol = k - 1;
            while (symbol >= 0) {
                List<Integer> window = new ArrayList<>(found.subList(found.size() - n + 1, found.size()));
                window.add(symbol);
                if (!earlier.contains(shownBy(window))) {
                    break;
                }
                symbol--;
            }
            if (symbol < 0) {
                break;
            }
            found.add(symbol);
        }
        int appended = found.size() - sequence.size();
        replace(found);
        return appended;
    }

    private int stepsLeft;

    /** The windows that a trial at the last of these symbols looks at, against all lower ones. */
    private boolean fits(List<Integer> symbols) {
        int size = elements.size();
        List<Integer> shown = new ArrayList<>();
        for (int i = 0; i < symbols.size(); i++) {
            if (i + n <= symbols.size()) {
                shown.add(shownBy(symbols.subList(i, i + n)));
            } else if (symbols.size() == size) {
                shown.add(shown(symbols, i));
            }
        }
        return !shown.contains(-1) && new HashSet<>(shown).size() == shown.size();
    }

    private boolean tryFrom(List<Integer> symbols) {
        for (int symbol = 0; symbol < k; symbol++) {
            if (stepsLeft == 0) {
                throw new IllegalStateException();
            }
            stepsLeft--;
            symbols.add(symbol);
            if (fits(symbols) && (symbols.size() == elements.size() || tryFrom(symbols))) {
                return true;
            }
            symbols.remove(symbols.size() - 1);
        }
        return false;
    }

    public int search(int limit) {
        if (limit < 1 || limit > 30000) {
            throw new IllegalArgumentException();
        }
        stepsLeft = limit;
        List<Integer> symbols = new ArrayList<>();
        if (!tryFrom(symbols)) {
            throw new NoSuchElementException();
        }
        replace(symbols);
        return limit - stepsLeft;
    }

    private void graph() {
        if (kind == 3) {
            throw new UnsupportedOperationException();
        }
    }

    private void vertex(int vertex) {
        if (vertex < 0 || vertex >= vertices.size()) {
            throw new IndexOutOfBoundsException();
        }
    }

    public int vertexCount() {
        graph();
        return vertices.size();
    }

    private int end(int element, boolean isTarget) {
        List<Integer> whole = elements.get(element);
        List<Integer> part = isTarget ? whole.subList(1, n) : whole.subList(0, n - 1);
        return vertices.indexOf(kind == 1 ? pattern(part) : part);
    }

    public int edgeEnd(int element, boolean isTarget) {
        graph();
        element(element);
        return end(element, isTarget);
    }

    public int inDegree(int vertex) {
        graph();
        vertex(vertex);
        int edges = 0;
        for (int i = 0; i < elements.size(); i++) {
            edges += end(i, true) == vertex ? 1 : 0;
        }
        return edges;
    }

    private static final int FAR = 1000000;

    private int[][] distances() {
        if (distances != null) {
            return distances;
        }
        int size = vertices.size();
        distances = new int[size][size];
        for (int i = 0; i < size; i++) {
            Arrays.fill(distances[i], FAR);
            distances[i][i] = 0;
        }
        for (int i = 0; i < elements.size(); i++) {
            int from = end(i, false);
            int to = end(i, true);
            distances[from][to] = Math.min(distances[from][to], 1);
        }
        for (int via = 0; via < size; via++) {
            for (int i = 0; i < size; i++) {
                for (int j = 0; j < size; j++) {
                    distances[i][j] = Math.min(distances[i][j], distances[i][via] + distances[via][j]);
                }
            }
        }
        return distances;
    }

    public int distance(int from, int to) {
        graph();
        vertex(from);
        vertex(to);
        if (distances()[from][to] >= FAR) {
            throw new NoSuchElementException();
        }
        return distances()[from][to];
    }

    public int componentOf(int vertex) {
        graph();
        vertex(vertex);
        int lowest = 0;
        while (distances()[vertex][lowest] >= FAR || distances()[lowest][vertex] >= FAR) {
            lowest++;
        }
        return lowest;
    }

    private List<Integer> circuit() {
        if (circuit != null) {
            return circuit;
        }
        Set<Integer> used = new HashSet<>();
        LinkedList<Integer> found = new LinkedList<>();
        ArrayDeque<int[]> stack = new ArrayDeque<>();
        stack.push(new int[] {0, -1});
        while (!stack.isEmpty()) {
            int vertex = stack.peek()[0];
            int lowest = -1;
            for (int i = elements.size() - 1; i >= 0; i--) {
                if (!used.contains(i) && end(i, false) == vertex) {
                    lowest = i;
                }
            }
            if (lowest >= 0) {
                used.add(lowest);
                stack.push(new int[] {end(lowest, true), lowest});
            } else {
                int edge = stack.pop()[1];
                if (edge >= 0) {
                    found.addFirst(edge);
                }
            }
        }
        circuit = found;
        return circuit;
    }

    private void euler() {
        if (circuit().size() < elements.size()) {
            throw new NoSuchElementException();
        }
    }

    private static BigInteger determinant(long[][] matrix, int row, Set<Integer> columns) {
        if (row == matrix.length) {
            return BigInteger.ONE;
        }
        BigInteger sum = BigInteger.ZERO;
        int sign = 1;
        for (int column : new TreeSet<>(columns)) {
            if (matrix[row][column] != 0) {
                columns.remove(column);
                BigInteger minor = determinant(matrix, row + 1, columns);
                columns.add(column);
                sum = sum.add(minor.multiply(BigInteger.valueOf(sign * matrix[row][column])));
            }
            sign = -sign;
        }
        return sum;
    }

    public long circuitCount() {
        graph();
        int size = vertices.size();
        if (size > 8) {
            throw new UnsupportedOperationException();
        }
        euler();
        long[][] matrix = new long[size - 1][size - 1];
        int[] out = new int[size];
        for (int i = 0; i < elements.size(); i++) {
            int from = end(i, false);
            int to = end(i, true);
            out[from]++;
            if (from > 0 && from != to) {
                matrix[from - 1][from - 1]++;
                if (to > 0) {
                    matrix[from - 1][to - 1]--;
                }
            }
        }
        Set<Integer> columns = new TreeSet<>();
        for (int i = 0; i < size - 1; i++) {
            columns.add(i);
        }
        BigInteger count = determinant(matrix, 0, columns);
        for (int vertex = 0; vertex < size; vertex++) {
            for (int factor = 2; factor < out[vertex]; factor++) {
                count = count.multiply(BigInteger.valueOf(factor));
            }
        }
        if (count.bitLength() > 63) {
            throw new ArithmeticException();
        }
        return count.longValueExact();
    }

    public int circuitEdge(int i) {
        graph();
        euler();
        if (i < 0 || i >= elements.size()) {
            throw new IndexOutOfBoundsException();
        }
        return circuit().get(i);
    }

    /** The longest chain of positions that ends below this one, or FAR if the requirements go round in a ring. */
    private int chainBelow(int position, List<Set<Integer>> lower, int[] known, Set<Integer> open) {
        if (known[position] >= 0) {
            return known[position];
        }
        if (!open.add(position)) {
            return FAR;
        }
        int longest = 0;
        for (int other : lower.get(position)) {
            longest = Math.max(longest, Math.min(FAR, 1 + chainBelow(other, lower, known, open)));
        }
        open.remove(position);
        known[position] = longest;
        return longest;
    }

    private List<Integer> chains() {
        int size = elements.size();
        List<Set<Integer>> lower = new ArrayList<>();
        for (int i = 0; i < size; i++) {
            lower.add(new HashSet<>());
        }
        for (int start = 0; start < size; start++) {
            List<Integer> element = elements.get(circuit().get(start));
            for (int i = 0; i < n; i++) {
                for (int j = 0; j < n; j++) {
                    if (element.get(i) < element.get(j)) {
                        lower.get((start + j) % size).add((start + i) % size);
                    }
                }
            }
        }
        int[] known = new int[size];
        Arrays.fill(known, -1);
        List<Integer> result = new ArrayList<>();
        for (int i = 0; i < size; i++) {
            result.add(chainBelow(i, lower, known, new HashSet<>()));
        }
        return result;
    }

    public int useCircuit() {
        graph();
        euler();
        List<Integer> found = new ArrayList<>();
        if (kind == 1) {
            found = chains();
        } else {
            for (int edge : circuit()) {
                found.add(elements.get(edge).get(0));
            }
        }
        if (Collections.max(found) > k - 1) {
            throw new NoSuchElementException();
        }
        replace(found);
        return distinctSymbols();
    }

    public int save() {
        savedFamily = new int[] {kind, n, k};
        savedSequence = new ArrayList<>(sequence);
        return sequence.size();
    }

    public int restore() {
        if (savedFamily == null) {
            throw new IllegalStateException();
        }
        setFamily(savedFamily[0], savedFamily[1], savedFamily[2]);
        sequence = new ArrayList<>(savedSequence);
        return sequence.size();
    }
}
