/** Promises 34 to 38: vertexCount, edgeEnd, inDegree, distance, componentOf. */
final class GraphBounds extends Bounds {
    private static final String SUBSETS = "setFamily(3, 2, 4) 6; " + LIVED;
    private static final String TWO_COMPONENTS = "setFamily(2, 3, 3) 6; " + LIVED;

    @Sentence({"Throws `UnsupportedOperationException` if the kind is 3", "Families of the kinds 0, 1 and 2 have a graph."})
    static void promise34KindIs3() {
        holds("setFamily(0, 1, 1) 1; vertexCount() 1; setFamily(1, 1, 1) 1; vertexCount() 1; setFamily(2, 1, 1) 1; vertexCount() 1; ");
        refused(UNSUPPORTED, SUBSETS, "vertexCount()");
        refused(UNSUPPORTED, "setFamily(3, 1, 1) 1; ", "vertexCount()");
        refused(UNSUPPORTED, "setFamily(3, 5, 8) 56; ", "vertexCount()");
        holds("setFamily(3, 2, 4) 6; ", throwing("vertexCount()", UNSUPPORTED), "setFamily(2, 2, 4) 12; vertexCount() 4; ");
    }

    @Sentence({"For n = 1 the only vertex is the empty sequence.", "Returns the number of vertices."})
    static void promise34LengthIs1() {
        holds("setFamily(0, 1, 8) 8; vertexCount() 1; setFamily(1, 1, 8) 1; vertexCount() 1; setFamily(2, 1, 8) 8; vertexCount() 1; ");
        refused(INDEX, "setFamily(0, 1, 8) 8; ", each("inDegree(#)", -1, 1));
    }

    @Sentence({"Returns the number of vertices of the graph of overlaps.",
        "Its vertices are the sequences of length n - 1 of the same kind: words with k symbols, permutations of 0 to n - 2, or arrangements "
        + "of k symbols."})
    static void promise34FewAndManyVertices() {
        holds("vertexCount() 2; setFamily(0, 5, 1) 1; vertexCount() 1; setFamily(0, 5, 2) 32; vertexCount() 16; setFamily(0, 4, 3) 81; "
                + "vertexCount() 27; setFamily(0, 3, 5) 125; vertexCount() 25; setFamily(0, 2, 8) 64; vertexCount() 8; ");
        holds("setFamily(1, 2, 8) 2; vertexCount() 1; setFamily(1, 3, 8) 6; vertexCount() 2; setFamily(1, 5, 5) 120; vertexCount() 24; "
                + "setFamily(1, 5, 8) 120; vertexCount() 24; ");
        holds("setFamily(2, 2, 2) 2; vertexCount() 2; setFamily(2, 5, 5) 120; vertexCount() 120; setFamily(2, 3, 6) 120; vertexCount() 30; "
                + "setFamily(2, 4, 5) 120; vertexCount() 60; ");
    }

    @Sentence("Throws `UnsupportedOperationException` if the kind is 3")
    static void promise35KindIs3() {
        refused(UNSUPPORTED, SUBSETS, "edgeEnd(0, false)", "edgeEnd(0, true)", "edgeEnd(5, true)");
        refused(UNSUPPORTED, SUBSETS, "edgeEnd(-1, false)", "edgeEnd(6, true)");
        holds("setFamily(2, 2, 4) 12; edgeEnd(0, false) 0; edgeEnd(0, true) 1; ");
    }

    @Sentence({"`element`: the element of the edge", "Throws `IndexOutOfBoundsException` if there is no such element",
        "The graph has an edge for each element.", "Edges have the numbers of their elements."})
    static void promise35NoSuchElement() {
        holds("edgeEnd(0, false) 0; edgeEnd(0, true) 0; edgeEnd(3, false) 1; edgeEnd(3, true) 1; ");
        refused(INDEX, LIVED, each("edgeEnd(#, false)", LOWEST, -1, 4, GREATEST));
        refused(INDEX, LIVED, each("edgeEnd(#, true)", LOWEST, -1, 4, GREATEST));
        holds("setFamily(0, 3, 5) 125; edgeEnd(124, false) 24; edgeEnd(124, true) 24; ");
        refused(INDEX, "setFamily(0, 3, 5) 125; ", each("edgeEnd(#, true)", -1, 125));
        refused(INDEX, "setFamily(0, 3, 5) 125; setFamily(1, 1, 8) 1; ", each("edgeEnd(#, false)", -1, 1));
    }

    @Sentence({"Returns an end of an edge of the graph of overlaps.", "Returns the vertex.",
        "`isTarget`: false for the vertex from which the edge leads, true for the vertex to which it leads",
        "With the kinds 0 and 2, the edge leads from the first n - 1 symbols of the element to its last n - 1 symbols.",
        "Vertices are numbered from 0 in lexicographic order."})
    static void promise35WordsAndArrangements() {
        holds("setFamily(0, 3, 2) 8; ", answers("edgeEnd(#, false)", 0, 0, 1, 1, 2, 2, 3, 3), answers("edgeEnd(#, true)", 0, 1, 2, 3, 0, 1, 2, 3));
        holds("setFamily(2, 3, 3) 6; ", answers("edgeEnd(#, false)", 0, 1, 2, 3, 4, 5), answers("edgeEnd(#, true)", 3, 5, 1, 4, 0, 2));
        holds("setFamily(0, 1, 3) 3; ", answers("edgeEnd(#, false)", 0, 0, 0), answers("edgeEnd(#, true)", 0, 0, 0));
        holds("setFamily(2, 1, 3) 3; ", answers("edgeEnd(#, false)", 0, 0, 0), answers("edgeEnd(#, true)", 0, 0, 0));
        holds("setFamily(0, 5, 1) 1; edgeEnd(0, false) 0; edgeEnd(0, true) 0; ");
    }

    @Sentence("With kind 1, it leads from the order pattern of its first n - 1 numbers to the order pattern of its last n - 1 numbers.")
    static void promise35OrderPatterns() {
        holds("setFamily(1, 3, 4) 6; ", answers("edgeEnd(#, false)", 0, 0, 1, 0, 1, 1), answers("edgeEnd(#, true)", 0, 1, 0, 1, 0, 1));
        holds("setFamily(1, 2, 2) 2; ", answers("edgeEnd(#, false)", 0, 0), answers("edgeEnd(#, true)", 0, 0));
        holds("setFamily(1, 1, 1) 1; edgeEnd(0, false) 0; edgeEnd(0, true) 0; ");
        holds("setFamily(1, 5, 5) 120; edgeEnd(0, true) 0; edgeEnd(119, false) 23; edgeEnd(119, true) 23; edgeEnd(24, false) 6; "
                + "edgeEnd(24, true) 0; ");
    }

    @Sentence("Throws `UnsupportedOperationException` if the kind is 3")
    static void promise36KindIs3() {
        refused(UNSUPPORTED, SUBSETS, each("inDegree(#)", 0, 1));
        refused(UNSUPPORTED, SUBSETS, each("inDegree(#)", -1, 100));
        holds("setFamily(2, 2, 4) 12; inDegree(0) 3; ");
    }

    @Sentence({"`vertex`: the vertex", "Throws `IndexOutOfBoundsException` if there is no such vertex"})
    static void promise36NoSuchVertex() {
        holds(answers("inDegree(#)", 2, 2));
        refused(INDEX, LIVED, each("inDegree(#)", LOWEST, -1, 2, GREATEST));
        holds("setFamily(2, 5, 5) 120; inDegree(0) 1; inDegree(119) 1; ");
        refused(INDEX, "setFamily(2, 5, 5) 120; ", each("inDegree(#)", -1, 120));
        refused(INDEX, "setFamily(2, 5, 5) 120; setFamily(1, 3, 3) 6; ", "inDegree(2)");
    }

    @Sentence({"Returns the number of edges that lead to a vertex.", "Returns the number of edges."})
    static void promise36FewestAndMostEdges() {
        holds("setFamily(0, 1, 1) 1; inDegree(0) 1; setFamily(0, 1, 8) 8; inDegree(0) 8; setFamily(0, 2, 8) 64; inDegree(7) 8; "
                + "setFamily(1, 1, 8) 1; inDegree(0) 1; setFamily(1, 5, 8) 120; inDegree(23) 5; setFamily(2, 3, 4) 24; inDegree(11) 2; "
                + "setFamily(0, 5, 2) 32; inDegree(15) 2; ");
    }

    @Sentence("Throws `UnsupportedOperationException` if the kind is 3")
    static void promise37KindIs3() {
        refused(UNSUPPORTED, SUBSETS, "distance(0, 0)", "distance(0, 1)");
        refused(UNSUPPORTED, SUBSETS, "distance(-1, 0)", "distance(0, 100)");
        holds("setFamily(2, 2, 4) 12; distance(0, 3) 1; ");
    }

    @Sentence({"`from`: the first vertex", "`to`: the last vertex", "Throws `IndexOutOfBoundsException` if there is no such vertex"})
    static void promise37NoSuchVertex() {
        holds("distance(0, 1) 1; distance(1, 0) 1; ");
        refused(INDEX, LIVED, each("distance(#, 0)", LOWEST, -1, 2, GREATEST));
        refused(INDEX, LIVED, each("distance(0, #)", LOWEST, -1, 2, GREATEST));
        refused(INDEX, LIVED, "distance(-1, -1)", "distance(2, 2)");
        refused(INDEX, TWO_COMPONENTS, "distance(0, 6)", "distance(6, 0)", "distance(-1, 1)");
        refused(INDEX, "setFamily(0, 1, 8) 8; ", "distance(0, 1)", "distance(1, 0)");
    }

    @Sentence("Throws `NoSuchElementException` if there is no walk")
    static void promise37NoWalk() {
        holds(TWO_COMPONENTS, "distance(0, 3) 1; distance(0, 4) 2; distance(5, 1) 2; ");
        refused(NOTHING, TWO_COMPONENTS, "distance(0, 1)", "distance(1, 0)", "distance(0, 5)", "distance(5, 0)");
        holds("setFamily(2, 5, 5) 120; distance(0, 0) 0; ", throwing("distance(0, 119)", NOTHING));
    }

    @Sentence({"Returns the length of the shortest walk from a vertex to a vertex.",
        "Returns the number of edges of the walk, 0 if both vertices are the same."})
    static void promise37SameVertexAndFarthestVertex() {
        holds("distance(0, 0) 0; distance(1, 1) 0; setFamily(0, 1, 8) 8; distance(0, 0) 0; setFamily(2, 3, 3) 6; distance(5, 5) 0; ");
        holds("setFamily(0, 5, 2) 32; distance(0, 15) 4; distance(15, 0) 4; distance(0, 1) 1; distance(1, 0) 4; distance(5, 10) 1; "
                + "distance(15, 15) 0; ");
        holds("setFamily(1, 3, 3) 6; distance(0, 1) 1; distance(1, 0) 1; ");
    }

    @Sentence("Throws `UnsupportedOperationException` if the kind is 3")
    static void promise38KindIs3() {
        refused(UNSUPPORTED, SUBSETS, each("componentOf(#)", 0, 1));
        refused(UNSUPPORTED, SUBSETS, each("componentOf(#)", -1, 100));
        holds("setFamily(2, 2, 4) 12; componentOf(3) 0; ");
    }

    @Sentence({"`vertex`: the vertex", "Throws `IndexOutOfBoundsException` if there is no such vertex"})
    static void promise38NoSuchVertex() {
        holds(answers("componentOf(#)", 0, 0));
        refused(INDEX, LIVED, each("componentOf(#)", LOWEST, -1, 2, GREATEST));
        refused(INDEX, TWO_COMPONENTS, each("componentOf(#)", -1, 6));
        refused(INDEX, "setFamily(0, 1, 8) 8; ", each("componentOf(#)", -1, 1));
    }

    @Sentence({"Returns the strongly connected component of a vertex.",
        "Returns the lowest vertex to which there is a walk from this vertex and from which there is a walk to it; a walk may have no edges."})
    static void promise38OneAndSeveralComponents() {
        holds("setFamily(2, 3, 3) 6; ", answers("componentOf(#)", 0, 1, 1, 0, 0, 1));
        holds("setFamily(0, 1, 1) 1; componentOf(0) 0; setFamily(0, 5, 2) 32; componentOf(0) 0; componentOf(15) 0; ");
        holds("setFamily(2, 5, 5) 120; componentOf(0) 0; componentOf(1) 1; componentOf(119) 23; ");
        holds("setFamily(2, 3, 3) 6; distance(0, 3) 1; componentOf(5) 1; distance(5, 2) 1; componentOf(4) 0; ");
    }
}
