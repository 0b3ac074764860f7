/** Promises 42 and 43: save, restore. */
final class SavingBounds extends Bounds {
    private static final String FULL = reading("0".repeat(239) + "1");

    @Sentence("Returns the length of the sequence.")
    static void promise42EmptyAndFull() {
        holds("save() 0; append(1) 1; restore() 0; length() 0; ");
        holds("append(1) 1; save() 1; clear() 1; restore() 1; ", holding("1"));
        holds(FULL, "save() 240; clear() 240; restore() 240; symbolAt(0) 0; symbolAt(239) 1; ");
    }

    @Sentence("Saves the family and the sequence, in place of those that were saved before.")
    static void promise42InPlaceOfTheOnesBefore() {
        holds(reading("110"), "save() 3; setFamily(3, 2, 4) 6; ", reading("32"), "save() 2; setFamily(0, 1, 1) 1; restore() 2; elementCount() 6; ",
                holding("32"), throwing("vertexCount()", UNSUPPORTED));
        holds(reading("110"), "save() 3; clear() 3; save() 0; append(1) 1; restore() 0; length() 0; ");
    }

    @Sentence("Saves the family and the sequence, in place of those that were saved before.")
    static void promise42LaterChangesDoNotReachWhatIsSaved() {
        holds(reading("110"), "save() 3; setSymbol(0, 0) 1; append(1) 4; restore() 3; ", holding("110"), "setSymbol(2, 1) 0; restore() 3; ",
                holding("110"));
    }

    @Sentence("Saves the family and the sequence, in place of those that were saved before.")
    static void promise42HistoryStays() {
        holds("append(1) 1; append(0) 2; save() 2; undo() 1; undo() 0; ", throwing("undo()", NOTHING), "restore() 2; ", holding("10"));
    }

    @Sentence("Throws `IllegalStateException` if nothing was saved")
    static void promise43NothingWasSaved() {
        refused(STATE, "", "restore()");
        refused(STATE, "append(1) 1; append(0) 2; write() 2; feed('1') 1; ", "restore()");
        refused(STATE, "append(1) 1; setFamily(2, 3, 3) 6; append(2) 1; ", "restore()");
        holds("save() 0; restore() 0; ");
    }

    @Sentence("Restores the saved family and sequence, which stay saved.")
    static void promise43StaySaved() {
        holds("setFamily(2, 2, 3) 6; ", reading("21"), "save() 2; setFamily(0, 1, 1) 1; restore() 2; ", holding("21"), "elementCount() 6; "
                + "vertexCount() 3; circuitEdge(5) 4; clear() 2; restore() 2; ", holding("21"), "setFamily(3, 5, 8) 56; restore() 2; append(2) 3; ");
        refused(ARGUMENT, "setFamily(2, 2, 3) 6; save() 0; setFamily(0, 1, 8) 8; restore() 0; ", each("append(#)", -1, 3));
    }

    @Sentence("The history becomes empty.")
    static void promise43HistoryBecomesEmpty() {
        refused(NOTHING, LIVED + "restore() 2; ", "undo()");
        refused(NOTHING, "save() 0; append(1) 1; restore() 0; ", "undo()");
        holds("append(1) 1; save() 1; append(0) 2; restore() 1; append(1) 2; undo() 1; ", throwing("undo()", NOTHING));
    }

    @Sentence("Returns the length of the sequence.")
    static void promise43EmptyAndFull() {
        holds("save() 0; append(1) 1; restore() 0; length() 0; ", throwing("symbolAt(0)", INDEX));
        holds(FULL, "save() 240; setFamily(0, 1, 1) 1; restore() 240; length() 240; symbolAt(239) 1; ", throwing("append(0)", STATE));
    }

    @Sentence("Restores the saved family and sequence, which stay saved.")
    static void promise43BuffersStay() {
        holds("save() 0; ", reading("10"), "write() 2; feed('1') 1; restore() 0; outputAt(0) 1; outputAt(1) 0; feed('0') 2; read() 2; ",
                holding("10"));
    }
}
