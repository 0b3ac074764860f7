import java.util.Arrays;
import java.util.NoSuchElementException;

public final class UniversalCycles {
    public static final int NONE = -1;

    private static final int WORDS = 0;
    private static final int PATTERNS = 1;
    private static final int ARRANGEMENTS = 2;
    private static final int SUBSETS = 3;

    private static final int MOST_PLACES = 5;
    private static final int MOST_SYMBOLS = 8;
    private static final int MOST_ELEMENTS = 200;
    private static final int MOST_POSITIONS = 240;
    private static final int MOST_LETTERS = 240;
    private static final int MOST_RECORDED = 12;
    private static final int MOST_STEPS = 30000;
    private static final int MOST_COUNTED_VERTICES = 8;
    private static final int PARTS = 4;
    private static final int BITS_OF_PART = 50;
    private static final int SYNTAX_ERROR = -100;

    private final Family family = new Family();
    private final Graph graph = new Graph();
    private final Row sequence = new Row();
    private final History history = new History();
    private final Windows windows = new Windows();
    private final Search searching = new Search();
    private final Greedy greedy = new Greedy();
    private final Unfolding unfolding = new Unfolding();
    private final CircuitCounter counter = new CircuitCounter();
    private final char[] input = new char[MOST_LETTERS];
    private int inputSize;
    private final char[] output = new char[MOST_POSITIONS];
    private int outputSize;
    private final Row savedSequence = new Row();
    private int savedKind;
    private int savedPlaces;
    private int savedSymbols;
    private boolean isSaved;

    public UniversalCycles() {
        beginFamily(WORDS, 2, 2);
    }

    public int setFamily(int kind, int n, int symbols) throws IllegalArgumentException {
        if (!Family.isPossible(kind, n, symbols)) {
            throw new IllegalArgumentException("no such family");
        }
        beginFamily(kind, n, symbols);
        return family.elements.size;
    }

    public int elementCount() {
        return family.elements.size;
    }

    public int elementAt(int element, int i) throws IndexOutOfBoundsException {
        needElement(element);
        if (i < 0 || i >= family.places) {
            throw new IndexOutOfBoundsException("no such place");
        }
        return Codes.numberAt(family.elements.codes[element], family.places, i);
    }

    public int append(int symbol) throws IllegalArgumentException, IllegalStateException {
        needSymbol(symbol);
        if (sequence.size >= MOST_POSITIONS) {
            throw new IllegalStateException("the sequence is full");
        }
        history.remember(sequence);
        sequence.push(symbol);
        return sequence.size;
    }

    public int setSymbol(int position, int symbol) throws IndexOutOfBoundsException, IllegalArgumentException {
        needPosition(position);
        needSymbol(symbol);
        history.remember(sequence);
        int previous = sequence.symbols[position];
        sequence.symbols[position] = symbol;
        return previous;
    }

    public int symbolAt(int position) throws IndexOutOfBoundsException {
        needPosition(position);
        return sequence.symbols[position];
    }

    public int length() {
        return sequence.size;
    }

    public int clear() {
        Row old = history.remember(sequence);
        sequence.size = 0;
        return old.size;
    }

    public int undo() throws NoSuchElementException {
        if (history.size == 0) {
            throw new NoSuchElementException("the history is empty");
        }
        history.takeInto(sequence);
        return sequence.size;
    }

    public int feed(char letter) throws IllegalStateException {
        if (inputSize >= MOST_LETTERS) {
            throw new IllegalStateException("the input buffer is full");
        }
        input[inputSize] = letter;
        inputSize++;
        return inputSize;
    }

    public int read() {
        int letters = inputSize;
        inputSize = 0;
        for (int i = 0; i < letters; i++) {
            if (!family.hasSymbol(input[i] - '0')) {
                return SYNTAX_ERROR - i;
            }
        }
        history.remember(sequence);
        sequence.size = 0;
        for (int i = 0; i < letters; i++) {
            sequence.push(input[i] - '0');
        }
        return sequence.size;
    }

    public int write() {
        for (int i = 0; i < sequence.size; i++) {
            output[i] = (char) ('0' + sequence.symbols[i]);
        }
        outputSize = sequence.size;
        return outputSize;
    }

    public char outputAt(int i) throws IndexOutOfBoundsException {
        if (i < 0 || i >= outputSize) {
            throw new IndexOutOfBoundsException("no such place");
        }
        return output[i];
    }

    public int shownAt(int position) throws IndexOutOfBoundsException {
        needPosition(position);
        return family.shownBy(sequence, position);
    }

    public int occurrences(int element) throws IndexOutOfBoundsException {
        needElement(element);
        windows.lookAt(family, sequence);
        return windows.times[element];
    }

    public int locate(int element) throws IndexOutOfBoundsException, NoSuchElementException {
        needElement(element);
        windows.lookAt(family, sequence);
        if (windows.times[element] == 0) {
            throw new NoSuchElementException("no window shows the element");
        }
        return windows.lowest[element];
    }

    public int firstInvalid() {
        windows.lookAt(family, sequence);
        return windows.invalidPosition();
    }

    public int firstRepeat() {
        windows.lookAt(family, sequence);
        return windows.repeatPosition();
    }

    public int firstMissing() {
        windows.lookAt(family, sequence);
        return windows.missingElement();
    }

    public boolean isUniversal() {
        windows.lookAt(family, sequence);
        return windows.invalidPosition() == NONE
                && windows.repeatPosition() == NONE
                && windows.missingElement() == NONE;
    }

    public long shownBits(int part) throws IllegalArgumentException {
        if (part < 0 || part >= PARTS) {
            throw new IllegalArgumentException("no such part");
        }
        windows.lookAt(family, sequence);
        return windows.bitsFrom(BITS_OF_PART * part);
    }

    public int longestRun() {
        windows.lookAt(family, sequence);
        windows.findRun();
        return windows.runSize;
    }

    public int longestRunStart() throws IllegalStateException {
        needSequence();
        windows.lookAt(family, sequence);
        windows.findRun();
        return windows.runStart;
    }

    public int distinctSymbols() {
        return Integer.bitCount(sequence.symbolMask());
    }

    public int compress() {
        history.remember(sequence);
        int mask = sequence.symbolMask();
        for (int i = 0; i < sequence.size; i++) {
            int lowerSymbols = (1 << sequence.symbols[i]) - 1;
            sequence.symbols[i] = Integer.bitCount(mask & lowerSymbols);
        }
        return Integer.bitCount(mask);
    }

    public int rotate(int position) throws IndexOutOfBoundsException {
        needPosition(position);
        return turnTo(position);
    }

    public int rotateToLowest() throws IllegalStateException {
        needSequence();
        int start = sequence.lowestRotation();
        turnTo(start);
        return start;
    }

    public int reverse() {
        Row old = history.remember(sequence);
        for (int i = 0; i < old.size; i++) {
            sequence.symbols[i] = old.symbols[old.size - 1 - i];
        }
        return sequence.size;
    }

    public int complement() {
        history.remember(sequence);
        for (int i = 0; i < sequence.size; i++) {
            sequence.symbols[i] = family.symbols - 1 - sequence.symbols[i];
        }
        return sequence.size;
    }

    public int exchange(int first, int second) throws IllegalArgumentException {
        needSymbol(first);
        needSymbol(second);
        history.remember(sequence);
        int positions = 0;
        for (int i = 0; i < sequence.size; i++) {
            int symbol = sequence.symbols[i];
            if (symbol == first || symbol == second) {
                sequence.symbols[i] = symbol == first ? second : first;
                positions++;
            }
        }
        return positions;
    }

    public int extendGreedily() {
        Row old = history.remember(sequence);
        greedy.extend(family, sequence);
        return sequence.size - old.size;
    }

    public int search(int limit) throws IllegalArgumentException, IllegalStateException, NoSuchElementException {
        if (limit < 1 || limit > MOST_STEPS) {
            throw new IllegalArgumentException("the limit is out of range");
        }
        int steps = searching.run(family, limit);
        if (steps == Search.LIMIT_REACHED) {
            throw new IllegalStateException("the limit is reached");
        }
        if (steps == Search.ALL_TRIED) {
            throw new NoSuchElementException("there is no universal sequence");
        }
        history.remember(sequence);
        sequence.copyFrom(searching.row);
        return steps;
    }

    public int vertexCount() throws UnsupportedOperationException {
        needGraph();
        return graph.vertices.size;
    }

    public int edgeEnd(int element, boolean isTarget) throws UnsupportedOperationException, IndexOutOfBoundsException {
        needGraph();
        needElement(element);
        return isTarget ? graph.incoming.ends[element] : graph.outgoing.ends[element];
    }

    public int inDegree(int vertex) throws UnsupportedOperationException, IndexOutOfBoundsException {
        needGraph();
        needVertex(vertex);
        return graph.incoming.degree(vertex);
    }

    public int distance(int from, int to)
            throws UnsupportedOperationException, IndexOutOfBoundsException, NoSuchElementException {
        needGraph();
        needVertex(from);
        needVertex(to);
        int edges = graph.walkLength(from, to);
        if (edges == NONE) {
            throw new NoSuchElementException("there is no walk");
        }
        return edges;
    }

    public int componentOf(int vertex) throws UnsupportedOperationException, IndexOutOfBoundsException {
        needGraph();
        needVertex(vertex);
        return graph.lowestOfComponent(vertex);
    }

    public long circuitCount() throws UnsupportedOperationException, NoSuchElementException, ArithmeticException {
        needGraph();
        if (graph.vertices.size > MOST_COUNTED_VERTICES) {
            throw new UnsupportedOperationException("the graph has too many vertices");
        }
        needCircuit();
        long circuits = counter.count(graph);
        if (circuits == CircuitCounter.TOO_MANY) {
            throw new ArithmeticException("the number is greater than a long");
        }
        return circuits;
    }

    public int circuitEdge(int i)
            throws UnsupportedOperationException, NoSuchElementException, IndexOutOfBoundsException {
        needGraph();
        needCircuit();
        if (i < 0 || i >= graph.edgeCount) {
            throw new IndexOutOfBoundsException("no such place");
        }
        return graph.circuit[i];
    }

    public int useCircuit() throws UnsupportedOperationException, NoSuchElementException {
        needGraph();
        needCircuit();
        if (!unfolding.unfold(family, graph)) {
            throw new NoSuchElementException("the symbols do not suffice for the circuit");
        }
        history.remember(sequence);
        sequence.copyFrom(unfolding.row);
        return Integer.bitCount(sequence.symbolMask());
    }

    public int save() {
        savedKind = family.kind;
        savedPlaces = family.places;
        savedSymbols = family.symbols;
        savedSequence.copyFrom(sequence);
        isSaved = true;
        return sequence.size;
    }

    public int restore() throws IllegalStateException {
        if (!isSaved) {
            throw new IllegalStateException("nothing was saved");
        }
        beginFamily(savedKind, savedPlaces, savedSymbols);
        sequence.copyFrom(savedSequence);
        return sequence.size;
    }

    private void beginFamily(int kind, int places, int symbols) {
        family.become(kind, places, symbols);
        graph.build(family);
        sequence.size = 0;
        history.size = 0;
    }

    private int turnTo(int position) {
        Row old = history.remember(sequence);
        for (int i = 0; i < old.size; i++) {
            sequence.symbols[i] = old.cyclicSymbol(position + i);
        }
        return old.symbols[0];
    }

    private void needElement(int element) {
        if (element < 0 || element >= family.elements.size) {
            throw new IndexOutOfBoundsException("no such element");
        }
    }

    private void needPosition(int position) {
        if (position < 0 || position >= sequence.size) {
            throw new IndexOutOfBoundsException("no such position");
        }
    }

    private void needVertex(int vertex) {
        if (vertex < 0 || vertex >= graph.vertices.size) {
            throw new IndexOutOfBoundsException("no such vertex");
        }
    }

    private void needSymbol(int symbol) {
        if (!family.hasSymbol(symbol)) {
            throw new IllegalArgumentException("no such symbol");
        }
    }

    private void needSequence() {
        if (sequence.size == 0) {
            throw new IllegalStateException("the sequence is empty");
        }
    }

    private void needGraph() {
        if (family.kind == SUBSETS) {
            throw new UnsupportedOperationException("subsets have no graph");
        }
    }

    private void needCircuit() {
        if (!graph.hasCircuit) {
            throw new NoSuchElementException("there is no Euler circuit");
        }
    }

    /** A sequence of symbols. Its array is made once, so that no call makes a new one. */
    private static final class Row {
        final int[] symbols = new int[MOST_POSITIONS];
        int size;

        void copyFrom(Row other) {
            System.arraycopy(other.symbols, 0, symbols, 0, symbols.length);
            size = other.size;
        }

        void push(int symbol) {
            if (size < symbols.length) {
                symbols[size] = symbol;
                size++;
            }
        }

        int cyclicSymbol(int position) {
            if (position < 0 || size <= 0) {
                return 0;
            }
            return symbols[position % size];
        }

        int symbolMask() {
            int mask = 0;
            for (int i = 0; i < size; i++) {
                mask |= 1 << symbols[i];
            }
            return mask;
        }

        int lowestRotation() {
            int best = 0;
            for (int start = 1; start < size; start++) {
                if (isLowerRotation(start, best)) {
                    best = start;
                }
            }
            return best;
        }

        private boolean isLowerRotation(int start, int other) {
            for (int i = 0; i < size; i++) {
                int difference = cyclicSymbol(start + i) - cyclicSymbol(other + i);
                if (difference != 0) {
                    return difference < 0;
                }
            }
            return false;
        }
    }

    /** The latest sequences, in a ring: the newest one takes the place of the oldest. */
    private static final class History {
        final Row[] rows = new Row[MOST_RECORDED];
        int newest;
        int size;

        History() {
            for (int i = 0; i < MOST_RECORDED; i++) {
                rows[i] = new Row();
            }
        }

        /** Answers the recorded copy, from which a caller can build the sequence anew. */
        Row remember(Row row) {
            newest = newest + 1 < MOST_RECORDED ? newest + 1 : 0;
            size = Math.min(size + 1, MOST_RECORDED);
            rows[newest].copyFrom(row);
            return rows[newest];
        }

        void takeInto(Row row) {
            row.copyFrom(rows[newest]);
            newest = newest > 0 ? newest - 1 : MOST_RECORDED - 1;
            size--;
        }
    }

    /**
     * All sequences of one kind and length, as codes in ascending order. A code packs numbers below 8 into an int,
     * three bits each, the first number highest: so the order of codes of one length is the lexicographic order.
     */
    private static final class Codes {
        static final int BITS = 3;
        static final int GREATEST = 7;

        final int[] codes = new int[MOST_ELEMENTS];
        final int[] prefixes = new int[MOST_ELEMENTS];
        int size;

        static int numberAt(int code, int places, int i) {
            return (code >> (BITS * (places - 1 - i))) & GREATEST;
        }

        static int withLast(int code, int number) {
            return (code << BITS) | number;
        }

        static int withoutLast(int code) {
            return code >> BITS;
        }

        static int withoutFirst(int code, int places) {
            return code & ((1 << (BITS * (places - 1))) - 1);
        }

        static int numberMask(int code, int places) {
            int mask = 0;
            for (int i = 0; i < places; i++) {
                mask |= 1 << ((code >> (BITS * i)) & GREATEST);
            }
            return mask;
        }

        /** For a code whose numbers are all different. */
        static int orderPattern(int code, int places) {
            int mask = numberMask(code, places);
            int pattern = 0;
            for (int i = 0; i < places; i++) {
                int lowerNumbers = (1 << numberAt(code, places, i)) - 1;
                pattern = withLast(pattern, Integer.bitCount(mask & lowerNumbers));
            }
            return pattern;
        }

        static int ascending(int mask) {
            int code = 0;
            for (int number = 0; number <= GREATEST; number++) {
                if (((mask >> number) & 1) == 1) {
                    code = withLast(code, number);
                }
            }
            return code;
        }

        void fill(int kind, int places, int symbols) {
            codes[0] = 0;
            size = 1;
            for (int filled = 0; filled < places; filled++) {
                lengthen(kind, filled, symbols);
            }
        }

        /** Keeps the order: the prefixes are ascending, and so are the symbols put behind each. */
        private void lengthen(int kind, int filled, int symbols) {
            System.arraycopy(codes, 0, prefixes, 0, MOST_ELEMENTS);
            int prefixCount = size;
            size = 0;
            for (int i = 0; i < prefixCount; i++) {
                int mask = numberMask(prefixes[i], filled);
                for (int symbol = 0; symbol < symbols; symbol++) {
                    if (mayFollow(kind, mask, symbol) && size < MOST_ELEMENTS) {
                        codes[size] = withLast(prefixes[i], symbol);
                        size++;
                    }
                }
            }
        }

        private static boolean mayFollow(int kind, int mask, int symbol) {
            if (kind == WORDS) {
                return true;
            }
            int remaining = mask >> symbol;
            return kind == SUBSETS ? remaining == 0 : (remaining & 1) == 0;
        }

        int indexOf(int code) {
            int low = 0;
            int high = size - 1;
            for (int turn = 0; turn < MOST_ELEMENTS && low <= high; turn++) {
                int middle = (low + high) >> 1;
                if (codes[middle] == code) {
                    return middle;
                }
                if (codes[middle] < code) {
                    low = middle + 1;
                } else {
                    high = middle - 1;
                }
            }
            return NONE;
        }
    }

    private static final class Family {
        final Codes elements = new Codes();
        int kind;
        int places;
        int symbols;

        static boolean isPossible(int kind, int places, int symbols) {
            if (kind < WORDS || kind > SUBSETS || places < 1 || places > MOST_PLACES) {
                return false;
            }
            if (symbols < 1 || symbols > MOST_SYMBOLS || (kind != WORDS && places > symbols)) {
                return false;
            }
            return sizeOf(kind, places, symbols) <= MOST_ELEMENTS;
        }

        private static int sizeOf(int kind, int places, int symbols) {
            int size = 1;
            for (int i = 0; i < places; i++) {
                if (kind == WORDS) {
                    size *= symbols;
                } else if (kind == PATTERNS) {
                    size *= i + 1;
                } else if (kind == ARRANGEMENTS) {
                    size *= symbols - i;
                } else {
                    size = size * (symbols - i) / (i + 1);
                }
            }
            return size;
        }

        void become(int newKind, int newPlaces, int newSymbols) {
            kind = newKind;
            places = newPlaces;
            symbols = newSymbols;
            fillCodes(elements, places);
        }

        /** The permutations are the arrangements of as many symbols as they have places. */
        void fillCodes(Codes codes, int length) {
            codes.fill(kind, length, kind == PATTERNS ? length : symbols);
        }

        boolean hasSymbol(int symbol) {
            return symbol >= 0 && symbol < symbols;
        }

        int shownBy(Row row, int start) {
            int code = 0;
            for (int i = 0; i < places; i++) {
                code = Codes.withLast(code, row.cyclicSymbol(start + i));
            }
            if (kind == WORDS) {
                return elements.indexOf(code);
            }
            int mask = Codes.numberMask(code, places);
            if (Integer.bitCount(mask) < places) {
                return NONE;
            }
            if (kind == PATTERNS) {
                return elements.indexOf(Codes.orderPattern(code, places));
            }
            return elements.indexOf(kind == SUBSETS ? Codes.ascending(mask) : code);
        }
    }

    /** What the windows of a cyclic sequence show. It holds for the sequence of the latest lookAt alone. */
    private static final class Windows {
        final int[] shown = new int[MOST_POSITIONS];
        final int[] times = new int[MOST_ELEMENTS];
        final int[] lowest = new int[MOST_ELEMENTS];
        final boolean[] isInRun = new boolean[MOST_ELEMENTS];
        int positions;
        int elements;
        int runSize;
        int runStart;

        void lookAt(Family family, Row row) {
            positions = row.size;
            elements = family.elements.size;
            Arrays.fill(times, 0);
            for (int position = 0; position < positions; position++) {
                int element = family.shownBy(row, position);
                shown[position] = element;
                if (element != NONE) {
                    if (times[element] == 0) {
                        lowest[element] = position;
                    }
                    times[element]++;
                }
            }
        }

        int invalidPosition() {
            for (int position = 0; position < positions; position++) {
                if (shown[position] == NONE) {
                    return position;
                }
            }
            return NONE;
        }

        int repeatPosition() {
            for (int position = 0; position < positions; position++) {
                int element = shown[position];
                if (element != NONE && lowest[element] < position) {
                    return position;
                }
            }
            return NONE;
        }

        int missingElement() {
            for (int element = 0; element < elements; element++) {
                if (times[element] == 0) {
                    return element;
                }
            }
            return NONE;
        }

        long bitsFrom(int firstElement) {
            long bits = 0;
            for (int i = 0; i < BITS_OF_PART && firstElement + i < elements; i++) {
                if (times[firstElement + i] > 0) {
                    bits |= 1L << i;
                }
            }
            return bits;
        }

        /**
         * A run from the next position reaches at least as far as the run from this one: so one run is kept, which
         * loses its first window and is lengthened again.
         */
        void findRun() {
            for (int element = 0; element < elements; element++) {
                isInRun[element] = false;
            }
            runSize = 0;
            runStart = 0;
            int size = 0;
            for (int start = 0; start < positions; start++) {
                size = lengthenRun(start, size);
                if (size > runSize) {
                    runSize = size;
                    runStart = start;
                }
                if (size > 0) {
                    isInRun[shown[start]] = false;
                    size--;
                }
            }
        }

        private int lengthenRun(int start, int size) {
            for (int newSize = size; newSize < positions; newSize++) {
                int position = start + newSize;
                int element = shown[position < positions ? position : position - positions];
                if (element == NONE || isInRun[element]) {
                    return newSize;
                }
                isInRun[element] = true;
            }
            return positions;
        }
    }

    /** The search by trial. It works on a row of its own, since a search that fails leaves the sequence alone. */
    private static final class Search {
        static final int LIMIT_REACHED = -1;
        static final int ALL_TRIED = -2;

        final Row row = new Row();
        final int[] claimed = new int[MOST_POSITIONS];
        final boolean[] isUsed = new boolean[MOST_ELEMENTS];
        int places;
        int last;

        int run(Family family, int limit) {
            begin(family);
            int position = 0;
            for (int steps = 1; steps <= limit; steps++) {
                boolean isFit = claimWindows(family, position);
                if (isFit && position == last) {
                    return steps;
                }
                if (isFit) {
                    position++;
                    row.symbols[position] = 0;
                } else {
                    position = goBack(family, position);
                }
                if (position == NONE) {
                    return ALL_TRIED;
                }
            }
            return LIMIT_REACHED;
        }

        private void begin(Family family) {
            places = family.places;
            row.size = family.elements.size;
            last = row.size - 1;
            row.symbols[0] = 0;
            Arrays.fill(claimed, NONE);
            for (int element = 0; element < row.size; element++) {
                isUsed[element] = false;
            }
        }

        /** A position decides the window that ends there; the last one also decides all windows that run beyond it. */
        private int lowestDecided(int position) {
            return Math.max(position - places + 1, 0);
        }

        private int highestDecided(int position) {
            return position == last ? last : position - places + 1;
        }

        private boolean claimWindows(Family family, int position) {
            int highest = highestDecided(position);
            for (int start = lowestDecided(position); start <= highest; start++) {
                int element = family.shownBy(row, start);
                if (element == NONE || isUsed[element]) {
                    return false;
                }
                isUsed[element] = true;
                claimed[start] = element;
            }
            return true;
        }

        private void releaseWindows(int position) {
            int highest = highestDecided(position);
            for (int start = lowestDecided(position); start <= highest; start++) {
                int element = claimed[start];
                if (element != NONE) {
                    isUsed[element] = false;
                    claimed[start] = NONE;
                }
            }
        }

        /** Sets the next symbol at the highest position that has one left, and answers this position. */
        private int goBack(Family family, int from) {
            for (int position = from; position >= 0; position--) {
                releaseWindows(position);
                if (row.symbols[position] + 1 < family.symbols) {
                    row.symbols[position]++;
                    return position;
                }
            }
            return NONE;
        }
    }

    private static final class Greedy {
        final boolean[] isUsed = new boolean[MOST_ELEMENTS];

        void extend(Family family, Row row) {
            markWindows(family, row);
            boolean isExtended = true;
            for (int size = row.size; size < MOST_POSITIONS && isExtended; size++) {
                isExtended = extendByOne(family, row);
            }
        }

        private void markWindows(Family family, Row row) {
            for (int element = 0; element < MOST_ELEMENTS; element++) {
                isUsed[element] = false;
            }
            for (int start = 0; start + family.places <= row.size; start++) {
                int element = family.shownBy(row, start);
                if (element != NONE) {
                    isUsed[element] = true;
                }
            }
        }

        private boolean extendByOne(Family family, Row row) {
            if (row.size + 1 < family.places) {
                row.push(0);
                return true;
            }
            for (int symbol = family.symbols - 1; symbol >= 0; symbol--) {
                row.push(symbol);
                int element = family.shownBy(row, row.size - family.places);
                if (element != NONE && !isUsed[element]) {
                    isUsed[element] = true;
                    return true;
                }
                row.size--;
            }
            return false;
        }
    }

    /** The edges grouped by the vertex at one of their ends, ascending in each group. */
    private static final class Fan {
        final int[] ends = new int[MOST_ELEMENTS];
        final int[] edges = new int[MOST_ELEMENTS];
        final int[] starts = new int[MOST_ELEMENTS + 1];

        /** The starts are first the ends of the groups, and come down to the starts as the groups are filled. */
        void group(int edgeCount, int vertexCount) {
            Arrays.fill(starts, 0);
            for (int edge = 0; edge < edgeCount; edge++) {
                starts[ends[edge]]++;
            }
            for (int vertex = 1; vertex <= vertexCount; vertex++) {
                starts[vertex] += starts[vertex - 1];
            }
            for (int edge = edgeCount - 1; edge >= 0; edge--) {
                int vertex = ends[edge];
                starts[vertex]--;
                edges[starts[vertex]] = edge;
            }
        }

        int degree(int vertex) {
            return starts[vertex + 1] - starts[vertex];
        }
    }

    /** The graph of overlaps with its standard circuit; a family of subsets leaves it as it was, and nobody asks it. */
    private static final class Graph {
        final Codes vertices = new Codes();
        final Fan outgoing = new Fan();
        final Fan incoming = new Fan();
        final int[] circuit = new int[MOST_ELEMENTS];
        final int[] stack = new int[MOST_ELEMENTS + 1];
        final int[] pushedBy = new int[MOST_ELEMENTS + 1];
        final int[] nextOut = new int[MOST_ELEMENTS];
        final int[] queue = new int[MOST_ELEMENTS];
        final int[] stepsTo = new int[MOST_ELEMENTS];
        final int[] stepsFrom = new int[MOST_ELEMENTS];
        int edgeCount;
        boolean hasCircuit;

        void build(Family family) {
            if (family.kind == SUBSETS) {
                return;
            }
            family.fillCodes(vertices, family.places - 1);
            edgeCount = family.elements.size;
            for (int edge = 0; edge < edgeCount; edge++) {
                int code = family.elements.codes[edge];
                outgoing.ends[edge] = vertexOf(family, Codes.withoutLast(code));
                incoming.ends[edge] = vertexOf(family, Codes.withoutFirst(code, family.places));
            }
            outgoing.group(edgeCount, vertices.size);
            incoming.group(edgeCount, vertices.size);
            buildCircuit();
        }

        private int vertexOf(Family family, int code) {
            boolean isPattern = family.kind == PATTERNS;
            int vertex = vertices.indexOf(isPattern ? Codes.orderPattern(code, family.places - 1) : code);
            // Each such part of an element is a vertex; the bound only keeps every index in range by itself.
            return Math.max(vertex, 0);
        }

        /** Each edge is pushed once and popped once, and vertex 0 is popped at last: that bounds the turns. */
        private void buildCircuit() {
            System.arraycopy(outgoing.starts, 0, nextOut, 0, nextOut.length);
            stack[0] = 0;
            pushedBy[0] = NONE;
            int height = 1;
            int unplaced = edgeCount;
            for (int turn = 0; turn <= 2 * edgeCount && height > 0; turn++) {
                int vertex = stack[height - 1];
                if (nextOut[vertex] < outgoing.starts[vertex + 1]) {
                    int edge = outgoing.edges[nextOut[vertex]];
                    nextOut[vertex]++;
                    stack[height] = incoming.ends[edge];
                    pushedBy[height] = edge;
                    height++;
                } else {
                    height--;
                    if (pushedBy[height] != NONE) {
                        unplaced--;
                        circuit[unplaced] = pushedBy[height];
                    }
                }
            }
            hasCircuit = unplaced == 0;
        }

        int walkLength(int from, int to) {
            spread(from, outgoing, incoming, stepsTo);
            return stepsTo[to];
        }

        int lowestOfComponent(int vertex) {
            spread(vertex, outgoing, incoming, stepsTo);
            spread(vertex, incoming, outgoing, stepsFrom);
            for (int other = 0; other < vertex; other++) {
                if (stepsTo[other] != NONE && stepsFrom[other] != NONE) {
                    return other;
                }
            }
            return vertex;
        }

        /** Follows the edges from their near ends to their far ends, in order of distance. */
        private void spread(int start, Fan near, Fan far, int[] steps) {
            Arrays.fill(steps, NONE);
            steps[start] = 0;
            queue[0] = start;
            int queued = 1;
            for (int taken = 0; taken < queued && taken < vertices.size; taken++) {
                int vertex = queue[taken];
                for (int i = near.starts[vertex]; i < near.starts[vertex + 1]; i++) {
                    int next = far.ends[near.edges[i]];
                    if (steps[next] == NONE) {
                        steps[next] = steps[vertex] + 1;
                        queue[queued] = next;
                        queued++;
                    }
                }
            }
        }
    }

    /** Counts Euler circuits by the BEST theorem. */
    private static final class CircuitCounter {
        static final long TOO_MANY = -1;

        final long[][] matrix = new long[MOST_COUNTED_VERTICES - 1][MOST_COUNTED_VERTICES - 1];

        long count(Graph graph) {
            int order = Math.min(graph.vertices.size, MOST_COUNTED_VERTICES) - 1;
            fillMatrix(graph, order);
            long circuits = determinant(order);
            for (int vertex = 0; vertex <= order; vertex++) {
                for (int factor = 2; factor < graph.outgoing.degree(vertex); factor++) {
                    if (circuits > Long.MAX_VALUE / factor) {
                        return TOO_MANY;
                    }
                    circuits *= factor;
                }
            }
            return circuits;
        }

        /** The matrix of the matrix-tree theorem for trees toward vertex 0, which has no row and no column. */
        private void fillMatrix(Graph graph, int order) {
            for (int row = 0; row < order; row++) {
                Arrays.fill(matrix[row], 0);
            }
            for (int edge = 0; edge < graph.edgeCount; edge++) {
                int from = graph.outgoing.ends[edge] - 1;
                int to = graph.incoming.ends[edge] - 1;
                if (from >= 0 && from < order) {
                    matrix[from][from]++;
                    if (to >= 0 && to < order) {
                        matrix[from][to]--;
                    }
                }
            }
        }

        /**
         * Bareiss' elimination, whose divisions leave no remainder. No pivot is 0 here: a leading minor counts the
         * forests toward the other vertices, and in a graph with an Euler circuit there is always one.
         */
        private long determinant(int order) {
            long divisor = 1;
            for (int step = 0; step < order; step++) {
                long pivot = matrix[step][step];
                if (pivot == 0) {
                    return 0;
                }
                for (int row = step + 1; row < order; row++) {
                    for (int column = step + 1; column < order; column++) {
                        long cross = matrix[row][step] * matrix[step][column];
                        matrix[row][column] = (matrix[row][column] * pivot - cross) / divisor;
                    }
                }
                divisor = pivot;
            }
            return divisor;
        }
    }

    /** Makes a sequence of the standard circuit, on a row of its own, since this may fail. */
    private static final class Unfolding {
        final Row row = new Row();

        /** Answers whether the symbols of the family suffice. */
        boolean unfold(Family family, Graph graph) {
            row.size = graph.edgeCount;
            if (family.kind == PATTERNS) {
                return unfoldPatterns(family, graph);
            }
            for (int i = 0; i < row.size; i++) {
                int code = family.elements.codes[graph.circuit[i]];
                row.symbols[i] = Codes.numberAt(code, family.places, 0);
            }
            return true;
        }

        /**
         * Raises symbols until all windows are content. A contradiction would raise them for ever, so it ends like
         * symbols that do not suffice: one of them comes to be too great. A round raises one symbol at least.
         */
        private boolean unfoldPatterns(Family family, Graph graph) {
            Arrays.fill(row.symbols, 0);
            int mostRounds = row.size * family.symbols + 1;
            boolean isRaised = true;
            for (int round = 0; round < mostRounds && isRaised; round++) {
                isRaised = false;
                for (int start = 0; start < row.size; start++) {
                    int code = family.elements.codes[graph.circuit[start]];
                    if (raiseWindow(code, family.places, start)) {
                        isRaised = true;
                    }
                }
                if (highestSymbol() >= family.symbols) {
                    return false;
                }
            }
            return !isRaised;
        }

        private boolean raiseWindow(int code, int places, int start) {
            if (row.size <= 0) {
                return false;
            }
            boolean isRaised = false;
            for (int i = 0; i < places; i++) {
                for (int j = 0; j < places; j++) {
                    int lower = (start + i) % row.size;
                    int higher = (start + j) % row.size;
                    boolean isRequired = Codes.numberAt(code, places, i) < Codes.numberAt(code, places, j);
                    if (isRequired && row.symbols[higher] <= row.symbols[lower]) {
                        row.symbols[higher] = row.symbols[lower] + 1;
                        isRaised = true;
                    }
                }
            }
            return isRaised;
        }

        private int highestSymbol() {
            int highest = 0;
            for (int i = 0; i < row.size; i++) {
                highest = Math.max(highest, row.symbols[i]);
            }
            return highest;
        }
    }
}
