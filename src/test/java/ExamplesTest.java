/** The examples of the document's "Description", word for word. */
public final class ExamplesTest {
    public static void main(String[] args) {
        Check.script("A search for the first cycle", "search(1000) 6; write() 4; outputAt(0) 0; outputAt(1) 0;"
                + "outputAt(2) 1; outputAt(3) 1; isUniversal() true; locate(2) 3; shownAt(3) 2;"
                + "symbolAt(4) throws IndexOutOfBoundsException");
        Check.script("Vertices, edges and circuits", "setFamily(0, 3, 2) 8; vertexCount() 4; edgeEnd(5, false) 2;"
                + "edgeEnd(5, true) 1; circuitCount() 2; circuitEdge(0) 0; circuitEdge(1) 1; circuitEdge(7) 4;"
                + "useCircuit() 2; write() 8; outputAt(3) 1; outputAt(7) 1");
        Check.script("A search that needs more steps", "setFamily(1, 3, 4) 6; search(20) throws IllegalStateException;"
                + "search(3000) 22; write() 6; outputAt(0) 0; outputAt(1) 1; outputAt(2) 2; outputAt(3) 0; outputAt(4) 3;"
                + "outputAt(5) 2; distinctSymbols() 4");
        Check.script("A family that cannot be searched and has no graph", "setFamily(3, 2, 4) 6;"
                + "search(30000) throws NoSuchElementException; vertexCount() throws UnsupportedOperationException;"
                + "append(0) 1; append(1) 2; append(0) 3; shownAt(0) 0; shownAt(2) -1; firstInvalid() 2; firstRepeat() 1");
        Check.script("A cycle that is appended symbol by symbol", "append(1) 1; append(1) 2; append(0) 3; append(0) 4;"
                + "rotateToLowest() 2; symbolAt(3) 1; longestRun() 4; undo() 4; symbolAt(3) 0");
        Check.script("Calls that throw", "setFamily(2, 3, 3) 6; componentOf(2) 1;"
                + "distance(0, 1) throws NoSuchElementException; useCircuit() throws NoSuchElementException;"
                + "setFamily(1, 4, 3) throws IllegalArgumentException");
        Check.end("ExamplesTest");
    }
}
