/** Promises 5 to 10: append, setSymbol, symbolAt, length, clear, undo. */
final class SequenceBounds extends Bounds {
    private static final String FULL = reading("01".repeat(120));
    private static final String ALMOST_FULL = reading("01".repeat(119) + "0");

    @Sentence({"Appends a symbol to the sequence.", "`symbol`: the symbol, 0 to k - 1", "The symbols are the integers 0 to k - 1.",
        "Throws `IllegalArgumentException` if the symbol is out of range"})
    static void promise05SymbolOutOfRange() {
        holds("append(0) 1; append(1) 2; ", holding("01"));
        refused(ARGUMENT, LIVED, each("append(#)", LOWEST, -1, 2, GREATEST));
        holds("setFamily(0, 1, 1) 1; append(0) 1; ", holding("0"));
        refused(ARGUMENT, "setFamily(0, 1, 1) 1; " + LIVED, each("append(#)", -1, 1));
        holds("setFamily(1, 2, 8) 2; append(0) 1; append(7) 2; ", holding("07"));
        refused(ARGUMENT, "setFamily(1, 2, 8) 2; " + LIVED, each("append(#)", -1, 8));
    }

    @Sentence({"Throws `IllegalStateException` if the sequence already has 240 symbols",
        "The object holds one sequence of 0 to 240 symbols, which is empty at first."})
    static void promise05SequenceHas240Symbols() {
        holds(ALMOST_FULL, "append(1) 240; symbolAt(239) 1; symbolAt(238) 0; undo() 239; append(0) 240; symbolAt(239) 0; ");
        refused(STATE, FULL, each("append(#)", 0, 1));
        holds(counted("append(1)", 1, 240), throwing("append(1)", STATE), "length() 240; undo() 239; append(0) 240; ");
    }

    @Sentence({"Throws `IllegalArgumentException` if the symbol is out of range", "If several exceptions apply, the one named first is thrown."})
    static void promise05SymbolOutOfRangeAndSequenceFull() {
        refused(ARGUMENT, FULL, each("append(#)", -1, 2));
    }

    @Sentence("Returns the length of the sequence.")
    static void promise05ReturnsTheLength() {
        holds("append(1) 1; append(1) 2; undo() 1; append(0) 2; clear() 2; append(0) 1; ");
    }

    @Sentence({"Replaces a symbol of the sequence.", "`position`: the position",
        "Throws `IndexOutOfBoundsException` if there is no such position"})
    static void promise06NoSuchPosition() {
        holds(reading("010"), "setSymbol(0, 1) 0; setSymbol(2, 1) 0; ", holding("111"));
        refused(INDEX, LIVED, each("setSymbol(#, 1)", LOWEST, -1, 3, GREATEST));
        refused(INDEX, "", each("setSymbol(#, 0)", -1, 0));
        refused(INDEX, LIVED + "clear() 3; ", "setSymbol(0, 1)");
        holds(FULL, "setSymbol(239, 0) 1; symbolAt(239) 0; undo() 240; symbolAt(239) 1; ");
        refused(INDEX, FULL, "setSymbol(240, 0)");
    }

    @Sentence({"`symbol`: the new symbol, 0 to k - 1", "Throws `IllegalArgumentException` if the symbol is out of range"})
    static void promise06SymbolOutOfRange() {
        holds(reading("01"), "setSymbol(0, 1) 0; setSymbol(1, 0) 1; ", holding("10"));
        refused(ARGUMENT, LIVED, each("setSymbol(0, #)", LOWEST, -1, 2, GREATEST));
        refused(ARGUMENT, LIVED, each("setSymbol(2, #)", -1, 2));
        holds("setFamily(0, 1, 8) 8; append(0) 1; setSymbol(0, 7) 0; ", holding("7"));
        refused(ARGUMENT, "setFamily(0, 1, 8) 8; " + LIVED, each("setSymbol(0, #)", -1, 8));
    }

    @Sentence({"Throws `IndexOutOfBoundsException` if there is no such position",
        "If several exceptions apply, the one named first is thrown."})
    static void promise06NoSuchPositionAndSymbolOutOfRange() {
        refused(INDEX, LIVED, "setSymbol(3, 2)", "setSymbol(-1, -1)");
        refused(INDEX, "", "setSymbol(0, 2)");
    }

    @Sentence("Returns the previous symbol.")
    static void promise06ReturnsThePreviousSymbol() {
        holds("setFamily(0, 1, 3) 3; append(2) 1; setSymbol(0, 0) 2; setSymbol(0, 0) 0; setSymbol(0, 1) 0; setSymbol(0, 2) 1; ");
    }

    @Sentence({"Returns a symbol of the sequence.", "`position`: the position", "Returns the symbol.", "Its positions are numbered from 0.",
        "Throws `IndexOutOfBoundsException` if there is no such position"})
    static void promise07NoSuchPosition() {
        holds(reading("01"), "symbolAt(0) 0; symbolAt(1) 1; ");
        refused(INDEX, LIVED, each("symbolAt(#)", LOWEST, -1, 3, GREATEST));
        refused(INDEX, "", each("symbolAt(#)", -1, 0));
        refused(INDEX, reading("01") + "clear() 2; ", "symbolAt(0)");
        holds(FULL, "symbolAt(0) 0; symbolAt(239) 1; ");
        refused(INDEX, FULL, "symbolAt(240)");
    }

    @Sentence({"Returns the length of the sequence.", "Returns the number of symbols."})
    static void promise08EmptyAndFull() {
        holds("length() 0; append(1) 1; length() 1; clear() 1; length() 0; ");
        holds(ALMOST_FULL, "length() 239; append(1) 240; length() 240; ", throwing("append(1)", STATE), "length() 240; ");
    }

    @Sentence({"Removes all symbols from the sequence.", "Returns the number of symbols that were removed."})
    static void promise09EmptyAndFull() {
        holds("clear() 0; length() 0; undo() 0; ", throwing("undo()", NOTHING));
        holds("append(1) 1; clear() 1; length() 0; ", throwing("symbolAt(0)", INDEX), "clear() 0; ");
        holds(FULL, "clear() 240; length() 0; append(1) 1; undo() 0; undo() 240; symbolAt(239) 1; ");
    }

    @Sentence({"Restores the sequence that was recorded last, and removes it from the history.",
        "Throws `NoSuchElementException` if the history is empty"})
    static void promise10HistoryEmpty() {
        refused(NOTHING, "", "undo()");
        holds("append(1) 1; undo() 0; length() 0; ");
        refused(NOTHING, "append(1) 1; undo() 0; ", "undo()");
        refused(NOTHING, LIVED + "undo() 2; undo() 1; undo() 0; ", "undo()");
        refused(NOTHING, LIVED + "setFamily(0, 2, 2) 4; ", "undo()");
        refused(NOTHING, LIVED + "restore() 2; ", "undo()");
    }

    @Sentence("Returns the length of the sequence.")
    static void promise10ReturnsTheLength() {
        holds("append(1) 1; append(0) 2; clear() 2; undo() 2; ", holding("10"), "undo() 1; ", holding("1"), "undo() 0; ");
        holds(FULL, "clear() 240; undo() 240; ");
    }

    @Sentence("The sequences that were replaced are recorded, the 12 latest ones at most.")
    static void promise10TwelveAreKept() {
        String twelve = counted("append(1)", 1, 12);
        holds(twelve, "undo() 11; undo() 10; undo() 9; undo() 8; undo() 7; undo() 6; undo() 5; undo() 4; undo() 3; undo() 2; undo() 1; "
                + "undo() 0; ", throwing("undo()", NOTHING), "length() 0; ");
    }

    @Sentence("The sequences that were replaced are recorded, the 12 latest ones at most.")
    static void promise10ThirteenthForgetsTheOldest() {
        String thirteen = counted("append(1)", 1, 13);
        String undone = "undo() 12; undo() 11; undo() 10; undo() 9; undo() 8; undo() 7; undo() 6; undo() 5; undo() 4; undo() 3; undo() 2; "
                + "undo() 1; ";
        holds(thirteen, undone, throwing("undo()", NOTHING), holding("1"));
        refused(NOTHING, thirteen + undone, "undo()");
    }

    @Sentence("The sequences that were replaced are recorded, the 12 latest ones at most.")
    static void promise10RingGoesRoundManyTimes() {
        holds("setFamily(0, 1, 8) 8; ", reading("0123456"), counted("append(7)", 8, 37),
                "undo() 36; undo() 35; undo() 34; append(0) 35; append(1) 36; append(2) 37; append(3) 38; undo() 37; symbolAt(36) 2; "
                + "undo() 36; symbolAt(35) 1; undo() 35; symbolAt(34) 0; undo() 34; symbolAt(33) 7; undo() 33; undo() 32; undo() 31; "
                + "undo() 30; undo() 29; undo() 28; undo() 27; undo() 26; ", throwing("undo()", NOTHING), "length() 26; ");
    }

    private static final String RECORDING = "A sequence is recorded by each call of append, setSymbol, clear, read, compress, rotate, "
            + "rotateToLowest, reverse, complement, exchange, extendGreedily, search and useCircuit that does not throw an exception and "
            + "does not return a syntax error, even if the new sequence is the same.";

    private static void recorded(String digits, String call) {
        holds(reading(digits), call, "undo() " + digits.length() + "; ", holding(digits), "undo() 0; ", throwing("undo()", NOTHING));
    }

    @Sentence(RECORDING)
    static void promise10EachOfTheseCallsRecords() {
        recorded("1001", "append(1) 5; ");
        recorded("1001", "setSymbol(0, 0) 1; ");
        recorded("1001", "clear() 4; ");
        recorded("1001", reading("01"));
        recorded("11", "compress() 1; ");
        recorded("1001", "rotate(1) 1; ");
        recorded("1001", "rotateToLowest() 1; ");
        recorded("1000", "reverse() 4; ");
        recorded("1001", "complement() 4; ");
        recorded("1001", "exchange(0, 1) 4; ");
        recorded("1001", "extendGreedily() 1; ");
        recorded("1001", "search(6) 6; ");
        recorded("1001", "useCircuit() 2; ");
    }

    @Sentence(RECORDING)
    static void promise10SameSequenceIsRecorded() {
        recorded("0110", "setSymbol(1, 1) 1; ");
        recorded("", "clear() 0; ");
        recorded("0110", reading("0110"));
        recorded("0110", "compress() 2; ");
        recorded("0110", "rotate(0) 0; ");
        recorded("0011", "rotateToLowest() 0; ");
        recorded("0110", "reverse() 4; ");
        recorded("", "complement() 0; ");
        recorded("0110", "exchange(1, 1) 2; ");
        recorded("01100", "extendGreedily() 0; ");
        recorded("0011", "search(6) 6; ");
        recorded("0011", "useCircuit() 2; ");
    }

    @Sentence(RECORDING)
    static void promise10EmptySequenceIsRecorded() {
        holds("compress() 0; reverse() 0; complement() 0; exchange(0, 1) 0; clear() 0; read() 0; ",
                "undo() 0; undo() 0; undo() 0; undo() 0; undo() 0; undo() 0; ", throwing("undo()", NOTHING));
    }

    @Sentence(RECORDING)
    static void promise10SyntaxErrorIsNotRecorded() {
        holds(reading("10"), "feed('2') 1; read() -100; ", holding("10"), "undo() 0; ", throwing("undo()", NOTHING));
        holds("feed('x') 1; read() -100; ", throwing("undo()", NOTHING));
    }

    @Sentence(RECORDING)
    static void promise10OtherCallsDoNotRecord() {
        holds(reading("10"), "elementCount() 4; elementAt(1, 1) 1; symbolAt(0) 1; length() 2; feed('1') 1; write() 2; outputAt(0) 1; "
                + "shownAt(0) 2; occurrences(2) 1; locate(2) 0; firstInvalid() -1; firstRepeat() -1; firstMissing() 0; isUniversal() false; "
                + "shownBits(0) 6; longestRun() 2; longestRunStart() 0; distinctSymbols() 2; vertexCount() 2; edgeEnd(1, true) 1; "
                + "inDegree(0) 2; distance(0, 1) 1; componentOf(1) 0; circuitCount() 1; circuitEdge(0) 0; save() 2; ",
                "undo() 0; ", throwing("undo()", NOTHING));
        holds("append(1) 1; append(0) 2; undo() 1; undo() 0; ", throwing("undo()", NOTHING));
    }
}
