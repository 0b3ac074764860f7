/** Promises 39 to 41: circuitCount, circuitEdge, useCircuit. */
final class CircuitBounds extends Bounds {
    private static final String SUBSETS = "setFamily(3, 2, 4) 6; " + LIVED;
    /** The circuit of the family before is missing, too: that must not be what is told. */
    private static final String SUBSETS_AFTER_NO_CIRCUIT = "setFamily(2, 3, 3) 6; " + SUBSETS;
    private static final String NO_CIRCUIT = "setFamily(2, 3, 3) 6; " + LIVED;

    private static final String TOO_MANY_VERTICES = "Throws `UnsupportedOperationException` if the kind is 3, or if the graph has more than "
            + "8 vertices";

    @Sentence(TOO_MANY_VERTICES)
    static void promise39KindIs3() {
        refused(UNSUPPORTED, SUBSETS, "circuitCount()");
        refused(UNSUPPORTED, SUBSETS_AFTER_NO_CIRCUIT, "circuitCount()");
        refused(UNSUPPORTED, "setFamily(3, 1, 1) 1; ", "circuitCount()");
        holds("setFamily(2, 1, 1) 1; circuitCount() 1; ");
    }

    @Sentence(TOO_MANY_VERTICES)
    static void promise39MoreThan8Vertices() {
        holds("setFamily(0, 4, 2) 16; vertexCount() 8; circuitCount() 16; ");
        refused(UNSUPPORTED, "setFamily(0, 3, 3) 27; vertexCount() 9; " + LIVED, "circuitCount()");
        refused(UNSUPPORTED, "setFamily(2, 3, 4) 24; vertexCount() 12; ", "circuitCount()");
        refused(UNSUPPORTED, "setFamily(0, 5, 2) 32; ", "circuitCount()");
        holds("setFamily(1, 4, 8) 24; vertexCount() 6; circuitCount() 13063680; ");
        refused(UNSUPPORTED, "setFamily(1, 5, 8) 120; vertexCount() 24; ", "circuitCount()");
    }

    @Sentence({TOO_MANY_VERTICES, "If several exceptions apply, the one named first is thrown."})
    static void promise39MoreThan8VerticesAndNoCircuit() {
        refused(UNSUPPORTED, "setFamily(2, 4, 4) 24; ", "circuitCount()");
        refused(UNSUPPORTED, "setFamily(2, 5, 5) 120; ", "circuitCount()");
    }

    @Sentence({"Throws `NoSuchElementException` if there is no Euler circuit",
        "If an edge has not been used in the end, there is no Euler circuit."})
    static void promise39NoEulerCircuit() {
        refused(NOTHING, NO_CIRCUIT, "circuitCount()");
        holds("setFamily(2, 2, 2) 2; circuitCount() 1; setFamily(2, 2, 3) 6; circuitCount() 3; ");
    }

    @Sentence("Throws `ArithmeticException` if the number is greater than Long.MAX_VALUE")
    static void promise39GreaterThanALong() {
        holds("setFamily(2, 2, 7) 42; circuitCount() 6022251970560000000; ");
        refused(ARITHMETIC, "setFamily(2, 2, 8) 56; " + LIVED, "circuitCount()");
        holds("setFamily(0, 2, 6) 36; circuitCount() 3869835264000000; ");
        refused(ARITHMETIC, "setFamily(0, 2, 7) 49; " + LIVED, "circuitCount()");
        refused(ARITHMETIC, "setFamily(0, 2, 8) 64; " + LIVED, "circuitCount()");
    }

    @Sentence({"Returns the number of Euler circuits, where circuits that are rotations of one another count as the same.",
        "By the BEST theorem this is the number of spanning trees that are directed toward vertex 0, times the factorial of the out-degree "
        + "minus 1 for each vertex.", "Returns the number of circuits."})
    static void promise39FewestVerticesAndEdges() {
        holds("circuitCount() 1; setFamily(0, 1, 1) 1; circuitCount() 1; setFamily(0, 1, 2) 2; circuitCount() 1; setFamily(0, 1, 3) 3; "
                + "circuitCount() 2; setFamily(0, 1, 8) 8; circuitCount() 5040; setFamily(0, 5, 1) 1; circuitCount() 1; ");
        holds("setFamily(1, 1, 1) 1; circuitCount() 1; setFamily(1, 2, 2) 2; circuitCount() 1; setFamily(1, 3, 3) 6; circuitCount() 8; "
                + "setFamily(2, 1, 8) 8; circuitCount() 5040; setFamily(0, 2, 3) 9; circuitCount() 24; setFamily(0, 3, 2) 8; circuitCount() 2; ");
    }

    @Sentence("Throws `UnsupportedOperationException` if the kind is 3")
    static void promise40KindIs3() {
        refused(UNSUPPORTED, SUBSETS, each("circuitEdge(#)", 0, 5));
        refused(UNSUPPORTED, SUBSETS, each("circuitEdge(#)", -1, 6));
        refused(UNSUPPORTED, SUBSETS_AFTER_NO_CIRCUIT, each("circuitEdge(#)", 0, 6));
        holds("setFamily(2, 1, 4) 4; circuitEdge(3) 3; ");
    }

    @Sentence({"Throws `NoSuchElementException` if there is no Euler circuit",
        "If an edge has not been used in the end, there is no Euler circuit."})
    static void promise40NoEulerCircuit() {
        refused(NOTHING, NO_CIRCUIT, each("circuitEdge(#)", 0, 5));
        refused(NOTHING, NO_CIRCUIT, each("circuitEdge(#)", -1, 6));
        refused(NOTHING, "setFamily(2, 4, 4) 24; ", "circuitEdge(0)");
        refused(NOTHING, "setFamily(2, 5, 5) 120; ", "circuitEdge(0)");
        holds("setFamily(2, 2, 2) 2; circuitEdge(0) 0; circuitEdge(1) 1; ");
    }

    @Sentence({"Returns one edge of the standard circuit.", "`i`: the place in the circuit, from 0", "Returns the element of the edge.",
        "Throws `IndexOutOfBoundsException` if there is no such place",
        "An Euler circuit of the graph is a closed walk that uses each edge exactly once."})
    static void promise40NoSuchPlace() {
        holds(answers("circuitEdge(#)", 0, 1, 3, 2));
        refused(INDEX, LIVED, each("circuitEdge(#)", LOWEST, -1, 4, GREATEST));
        holds("setFamily(0, 1, 1) 1; circuitEdge(0) 0; ");
        refused(INDEX, "setFamily(0, 1, 1) 1; ", each("circuitEdge(#)", -1, 1));
        holds("setFamily(0, 3, 5) 125; circuitEdge(0) 0; circuitEdge(124) 100; ");
        refused(INDEX, "setFamily(0, 3, 5) 125; ", each("circuitEdge(#)", -1, 125));
    }

    @Sentence({"The standard circuit is built with a stack of vertices that holds vertex 0 at first.",
        "As long as the stack is not empty, the vertex on top is considered.",
        "If an edge that has not been used leads from it, the lowest such edge becomes used, and its target is pushed.",
        "Otherwise the vertex is popped, and the edge by which it was pushed is put ahead of the circuit so far; vertex 0 at the bottom was "
        + "pushed by no edge."})
    static void promise40StandardCircuit() {
        holds("setFamily(0, 3, 2) 8; ", answers("circuitEdge(#)", 0, 1, 2, 5, 3, 7, 6, 4));
        holds("setFamily(1, 3, 3) 6; ", answers("circuitEdge(#)", 0, 1, 2, 3, 5, 4));
        holds("setFamily(2, 2, 3) 6; ", answers("circuitEdge(#)", 0, 2, 1, 5, 3, 4));
        holds("setFamily(0, 1, 5) 5; ", answers("circuitEdge(#)", 0, 1, 2, 3, 4));
        holds("setFamily(1, 2, 2) 2; ", answers("circuitEdge(#)", 0, 1));
    }

    @Sentence("Throws `UnsupportedOperationException` if the kind is 3")
    static void promise41KindIs3() {
        refused(UNSUPPORTED, SUBSETS, "useCircuit()");
        refused(UNSUPPORTED, SUBSETS_AFTER_NO_CIRCUIT, "useCircuit()");
        refused(UNSUPPORTED, "setFamily(3, 1, 4) 4; ", "useCircuit()");
        holds("setFamily(2, 1, 4) 4; useCircuit() 4; ", holding("0123"));
    }

    private static final String NO_SEQUENCE = "Throws `NoSuchElementException` if there is no Euler circuit, if the requirements contradict "
            + "one another, or if a symbol would be greater than k - 1";

    @Sentence(NO_SEQUENCE)
    static void promise41NoEulerCircuit() {
        refused(NOTHING, NO_CIRCUIT, "useCircuit()");
        refused(NOTHING, "setFamily(2, 4, 4) 24; " + LIVED, "useCircuit()");
        refused(NOTHING, "setFamily(2, 5, 5) 120; " + LIVED, "useCircuit()");
        holds("setFamily(2, 2, 2) 2; useCircuit() 2; ", holding("01"));
        holds("setFamily(2, 4, 5) 120; useCircuit() 5; isUniversal() true; ");
    }

    /** No standard circuit of the families has requirements that contradict one another; for n = 4 they ask for 13 symbols, for 5 for 41. */
    @Sentence(NO_SEQUENCE)
    static void promise41SymbolGreaterThanTheFamilyHas() {
        holds("setFamily(1, 3, 6) 6; useCircuit() 6; ", holding("014352"), "isUniversal() true; ");
        refused(NOTHING, "setFamily(1, 3, 5) 6; " + LIVED, "useCircuit()");
        refused(NOTHING, "setFamily(1, 3, 3) 6; " + LIVED, "useCircuit()");
        refused(NOTHING, "setFamily(1, 4, 8) 24; " + LIVED, "useCircuit()");
        refused(NOTHING, "setFamily(1, 5, 8) 120; " + LIVED, "useCircuit()");
        holds("setFamily(1, 3, 8) 6; useCircuit() 6; ", holding("014352"));
    }

    @Sentence({"With kind 1, each window requires that some positions have lower symbols than others; each position gets the length of the "
        + "longest chain of positions, each of which is required to have a lower symbol than the next one, that ends with a position that "
        + "is required to have a lower symbol than this one.",
        "The length of a chain is the number of its positions, and 0 if there is no such chain."})
    static void promise41NoChain() {
        holds("setFamily(1, 1, 1) 1; useCircuit() 1; ", holding("0"));
        holds("setFamily(1, 1, 8) 1; useCircuit() 1; ", holding("0"));
        holds("setFamily(1, 2, 2) 2; useCircuit() 2; ", holding("01"));
        holds("setFamily(1, 3, 6) 6; useCircuit() 6; symbolAt(0) 0; symbolAt(4) 5; ");
    }

    @Sentence({"Replaces the sequence by one whose window at each position i shows the element of edge i of the standard circuit.",
        "With the kinds 0 and 2, the symbol at position i is the first symbol of this element.",
        "Returns the number of different symbols of the new sequence."})
    static void promise41WordsAndArrangements() {
        holds("setFamily(0, 1, 1) 1; useCircuit() 1; ", holding("0"), "setFamily(0, 5, 1) 1; useCircuit() 1; ", holding("0"));
        holds("setFamily(0, 3, 2) 8; useCircuit() 2; ", holding("00010111"), answers("shownAt(#)", 0, 1, 2, 5, 3, 7, 6, 4));
        holds("setFamily(2, 2, 3) 6; useCircuit() 3; ", holding("010212"), answers("shownAt(#)", 0, 2, 1, 5, 3, 4));
        holds("setFamily(0, 3, 5) 125; useCircuit() 5; length() 125; isUniversal() true; ");
        holds("setFamily(1, 3, 6) 6; useCircuit() 6; ", answers("shownAt(#)", 0, 1, 2, 3, 5, 4));
    }

    @Sentence("Replaces the sequence by one whose window at each position i shows the element of edge i of the standard circuit.")
    static void promise41ReplacesThePresentSequence() {
        holds("setFamily(0, 2, 8) 64; useCircuit() 8; setFamily(1, 3, 6) 6; useCircuit() 6; ", holding("014352"));
        holds("setFamily(1, 5, 8) 120; ", throwing("useCircuit()", NOTHING), "setFamily(1, 3, 6) 6; useCircuit() 6; ", holding("014352"));
        holds(reading("1".repeat(240)), "useCircuit() 2; ", holding("0011"), "undo() 240; undo() 0; ", throwing("undo()", NOTHING));
    }
}
