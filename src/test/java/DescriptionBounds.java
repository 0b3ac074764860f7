/** The sentences of the description that hold for all promises at once. */
final class DescriptionBounds extends Bounds {
    /** Every part of the state has a content, twelve sequences are recorded, and the family is not the one of a new object. */
    private static String filled(String family) {
        return "setFamily(" + family + "; " + reading("0101") + "save() 4; " + counted("append(1)", 5, 17) + "write() 17; feed('1') 1; feed('x') 2; "
                + "feed('0') 3; undo() 16; ";
    }

    @Sentence("A method that throws an exception leaves the state unchanged.")
    static void descriptionArgumentsThatAreRefused() {
        String before = filled("0, 2, 3) 9");
        refused(ARGUMENT, before, "setFamily(0, 2, 9)", "setFamily(1, 3, 2)", "setFamily(0, 5, 3)", "append(3)", "setSymbol(0, 3)",
                "shownBits(4)", "exchange(0, 3)", "exchange(3, 0)", "search(0)", "search(30001)");
        refused(INDEX, before, "elementAt(9, 0)", "elementAt(0, 2)", "setSymbol(16, 0)", "symbolAt(16)", "outputAt(17)", "shownAt(16)",
                "occurrences(9)", "locate(9)", "rotate(16)", "edgeEnd(9, true)", "inDegree(3)", "distance(0, 3)", "distance(3, 0)",
                "componentOf(3)", "circuitEdge(9)");
    }

    @Sentence("A method that throws an exception leaves the state unchanged.")
    static void descriptionStatesInWhichCallsAreRefused() {
        refused(STATE, filled("0, 2, 3) 9"), "search(1)", "search(20)");
        refused(NOTHING, filled("0, 2, 3) 9"), "locate(8)");
        refused(STATE, filled("0, 2, 3) 9") + "clear() 16; ", "longestRunStart()", "rotateToLowest()");
        refused(NOTHING, filled("2, 3, 3) 6"), "search(30000)", "distance(0, 1)", "circuitCount()", "circuitEdge(0)", "useCircuit()");
        refused(NOTHING, filled("1, 4, 8) 24"), "useCircuit()");
        refused(UNSUPPORTED, filled("3, 2, 4) 6"), "vertexCount()", "edgeEnd(0, true)", "inDegree(0)", "distance(0, 0)", "componentOf(0)",
                "circuitCount()", "circuitEdge(0)", "useCircuit()");
        refused(ARITHMETIC, filled("0, 2, 8) 64"), "circuitCount()");
    }

    @Sentence("If several exceptions apply, the one named first is thrown.")
    static void descriptionSeveralExceptions() {
        holds(counted("append(1)", 1, 240), throwing("append(2)", ARGUMENT), throwing("append(1)", STATE));
        holds(throwing("setSymbol(0, 2)", INDEX), "append(0) 1; ", throwing("setSymbol(0, 2)", ARGUMENT));
        holds(throwing("locate(4)", INDEX), throwing("locate(3)", NOTHING));
        holds("setFamily(3, 2, 2) 1; ", throwing("search(0)", ARGUMENT), throwing("search(1)", STATE), throwing("search(2)", NOTHING));
        holds("setFamily(3, 2, 4) 6; ", throwing("edgeEnd(6, true)", UNSUPPORTED), throwing("inDegree(-1)", UNSUPPORTED),
                throwing("distance(-1, 9)", UNSUPPORTED), throwing("componentOf(-1)", UNSUPPORTED), throwing("circuitEdge(6)", UNSUPPORTED));
        holds("setFamily(2, 3, 3) 6; ", throwing("distance(0, 6)", INDEX), throwing("distance(0, 5)", NOTHING),
                throwing("circuitEdge(6)", NOTHING));
        holds("setFamily(2, 4, 4) 24; ", throwing("circuitCount()", UNSUPPORTED), "setFamily(2, 3, 3) 6; ", throwing("circuitCount()", NOTHING));
    }

    @Sentence("An object is used for at most 512 calls after it has been made; what later calls answer is free.")
    static void descriptionLastCallOfAnObject() {
        holds(counted("append(1)", 1, 240), "clear() 240; ", counted("append(0)", 1, 240), "undo() 239; undo() 238; undo() 237; ",
                counted("feed('1')", 1, 25), "read() 25; symbolAt(24) 1; undo() 237; ");
        holds("search(6) 6; ".repeat(511), "isUniversal() true; ");
        holds("setFamily(2, 5, 5) 120; setFamily(3, 4, 8) 70; ".repeat(255), "append(7) 1; append(0) 2; ");
        holds("save() 0; restore() 0; ".repeat(255), "circuitCount() 1; useCircuit() 2; ");
    }
}
