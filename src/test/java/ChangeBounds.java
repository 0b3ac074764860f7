/** Promises 26 to 32: compress, rotate, rotateToLowest, reverse, complement, exchange, extendGreedily. */
final class ChangeBounds extends Bounds {
    private static final String FULL = reading("0".repeat(239) + "1");

    @Sentence({"Replaces each symbol of the sequence by the number of different symbols of the sequence that are less than it.",
        "Returns the number of different symbols."})
    static void promise26NoSymbolsAndAllSymbols() {
        holds("compress() 0; length() 0; undo() 0; ", throwing("undo()", NOTHING));
        holds("append(1) 1; compress() 1; ", holding("0"), "undo() 1; ", holding("1"));
        holds("setFamily(0, 1, 8) 8; ", reading("76543210"), "compress() 8; ", holding("76543210"));
        holds("setFamily(0, 1, 8) 8; ", reading("7577"), "compress() 2; ", holding("1011"));
        holds("setFamily(0, 1, 8) 8; ", reading("7".repeat(239) + "0"), "compress() 2; symbolAt(0) 1; symbolAt(238) 1; symbolAt(239) 0; ");
    }

    @Sentence({"`position`: the position", "Throws `IndexOutOfBoundsException` if there is no such position"})
    static void promise27NoSuchPosition() {
        holds("setFamily(0, 1, 4) 4; ", reading("012"), "rotate(0) 0; ", holding("012"), "rotate(2) 0; ", holding("201"));
        refused(INDEX, LIVED, each("rotate(#)", LOWEST, -1, 3, GREATEST));
        refused(INDEX, "", each("rotate(#)", -1, 0));
        refused(INDEX, LIVED + "clear() 3; ", "rotate(0)");
        holds("append(1) 1; rotate(0) 1; ", holding("1"));
        holds(FULL, "rotate(239) 0; symbolAt(0) 1; symbolAt(1) 0; symbolAt(239) 0; length() 240; ");
        refused(INDEX, FULL, "rotate(240)");
    }

    @Sentence({"Rotates the sequence: the symbol at a position comes to position 0, and the others follow in the same cyclic order.",
        "Returns the symbol that was at position 0."})
    static void promise27CyclicOrder() {
        holds("setFamily(0, 1, 4) 4; ", reading("3012"), "rotate(1) 3; ", holding("0123"), "rotate(3) 0; ", holding("3012"), "rotate(2) 3; ",
                holding("1230"));
    }

    @Sentence("Throws `IllegalStateException` if the sequence is empty")
    static void promise28SequenceEmpty() {
        refused(STATE, "", "rotateToLowest()");
        refused(STATE, LIVED + "clear() 3; ", "rotateToLowest()");
        holds("append(1) 1; rotateToLowest() 0; ", holding("1"));
    }

    @Sentence("Returns the lowest position that came to position 0 with this result.")
    static void promise28LowestOfSeveralPositions() {
        holds(reading("1010"), "rotateToLowest() 1; ", holding("0101"), "rotateToLowest() 0; ", holding("0101"));
        holds(reading("111"), "rotateToLowest() 0; ", holding("111"));
        holds(reading("100100"), "rotateToLowest() 1; ", holding("001001"));
        holds(reading("10".repeat(120)), "rotateToLowest() 1; symbolAt(0) 0; symbolAt(239) 1; ");
    }

    @Sentence("Rotates the sequence so that it becomes lexicographically lowest.")
    static void promise28FirstAndLastPosition() {
        holds(reading("0011"), "rotateToLowest() 0; ", holding("0011"));
        holds(reading("1110"), "rotateToLowest() 3; ", holding("0111"));
        holds(reading("0100"), "rotateToLowest() 2; ", holding("0001"));
        holds(reading("0010"), "rotateToLowest() 3; ", holding("0001"));
        holds(reading("1".repeat(239) + "0"), "rotateToLowest() 239; symbolAt(0) 0; symbolAt(1) 1; symbolAt(239) 1; ");
    }

    @Sentence({"Reverses the order of the symbols in the sequence.", "Returns the length of the sequence."})
    static void promise29EmptyAndFull() {
        holds("reverse() 0; length() 0; ");
        holds("append(1) 1; reverse() 1; ", holding("1"), "append(0) 2; reverse() 2; ", holding("01"), "append(1) 3; append(1) 4; append(0) 5; "
                + "reverse() 5; ", holding("01110"), "append(1) 6; reverse() 6; ", holding("101110"));
        holds(FULL, "reverse() 240; symbolAt(0) 1; symbolAt(1) 0; symbolAt(239) 0; ");
    }

    @Sentence({"Replaces each symbol s of the sequence by k - 1 - s.", "Returns the length of the sequence."})
    static void promise30EmptyAndFull() {
        holds("complement() 0; length() 0; ");
        holds("setFamily(0, 1, 1) 1; append(0) 1; complement() 1; ", holding("0"));
        holds("setFamily(0, 1, 8) 8; ", reading("07"), "complement() 2; ", holding("70"));
        holds("setFamily(1, 2, 3) 2; ", reading("012"), "complement() 3; ", holding("210"));
        holds(FULL, "complement() 240; symbolAt(0) 1; symbolAt(238) 1; symbolAt(239) 0; ");
    }

    @Sentence({"`first`: a symbol, 0 to k - 1", "Throws `IllegalArgumentException` if a symbol is out of range"})
    static void promise31FirstSymbolOutOfRange() {
        holds(reading("011"), "exchange(0, 1) 3; ", holding("100"), "exchange(1, 0) 3; ", holding("011"));
        refused(ARGUMENT, LIVED, each("exchange(#, 0)", LOWEST, -1, 2, GREATEST));
        refused(ARGUMENT, "", each("exchange(#, 0)", -1, 2));
        holds("setFamily(0, 1, 8) 8; ", reading("07"), "exchange(7, 1) 1; ", holding("01"));
        refused(ARGUMENT, "setFamily(0, 1, 8) 8; " + LIVED, each("exchange(#, 1)", -1, 8));
    }

    @Sentence({"`second`: a symbol, 0 to k - 1; it may be the same", "Throws `IllegalArgumentException` if a symbol is out of range"})
    static void promise31SecondSymbolOutOfRange() {
        refused(ARGUMENT, LIVED, each("exchange(0, #)", LOWEST, -1, 2, GREATEST));
        refused(ARGUMENT, "", each("exchange(1, #)", -1, 2));
        holds("setFamily(0, 1, 8) 8; ", reading("07"), "exchange(0, 7) 2; ", holding("70"));
        refused(ARGUMENT, "setFamily(0, 1, 8) 8; " + LIVED, each("exchange(0, #)", -1, 8));
        refused(ARGUMENT, LIVED, "exchange(2, 2)", "exchange(-1, -1)");
    }

    @Sentence("`second`: a symbol, 0 to k - 1; it may be the same")
    static void promise31SameSymbol() {
        holds(reading("0110"), "exchange(0, 0) 2; ", holding("0110"), "exchange(1, 1) 2; ", holding("0110"));
        holds("setFamily(0, 1, 1) 1; append(0) 1; exchange(0, 0) 1; ", holding("0"));
    }

    @Sentence({"Exchanges two symbols wherever they occur in the sequence.",
        "Returns the number of positions at which one of the two symbols stands."})
    static void promise31NoPositionsAndAllPositions() {
        holds("exchange(0, 1) 0; length() 0; ");
        holds("setFamily(0, 1, 4) 4; ", reading("0220"), "exchange(1, 3) 0; ", holding("0220"), "exchange(2, 3) 2; ", holding("0330"),
                "exchange(3, 0) 4; ", holding("3003"));
        holds(FULL, "exchange(0, 1) 240; symbolAt(0) 1; symbolAt(238) 1; symbolAt(239) 0; ");
    }

    @Sentence({"Extends the sequence greedily.",
        "Here the sequence is not read as a cycle: only the windows that end at or before its last symbol count."})
    static void promise32WindowsThatGoRoundDoNotCount() {
        holds(reading("10"), "extendGreedily() 2; ", holding("1011"));
        holds("setFamily(2, 2, 3) 6; ", reading("20"), "extendGreedily() 3; ", holding("20212"));
        holds("setFamily(0, 1, 2) 2; ", reading("1"), "extendGreedily() 1; ", holding("10"));
    }

    private static final String GREATEST_SYMBOL = "Repeatedly, the greatest symbol is appended for which the last n symbols show an element "
            + "that no earlier window shows.";

    @Sentence(GREATEST_SYMBOL)
    static void promise32GreatestSymbolFirst() {
        holds("setFamily(0, 1, 8) 8; extendGreedily() 8; ", holding("76543210"));
        holds(reading("00"), "extendGreedily() 3; ", holding("00110"));
        holds("setFamily(1, 2, 3) 2; append(2) 1; extendGreedily() 2; ", holding("212"));
    }

    @Sentence(GREATEST_SYMBOL)
    static void promise32WindowsOfAClearedSequenceDoNotCount() {
        holds("extendGreedily() 5; clear() 5; extendGreedily() 5; ", holding("01100"));
        holds("setFamily(0, 1, 3) 3; extendGreedily() 3; clear() 3; extendGreedily() 3; ", holding("210"));
    }

    private static final String ENDS = "This ends when there is no such symbol or the sequence has 240 symbols.";

    @Sentence(ENDS)
    static void promise32NoSuchSymbol() {
        holds("extendGreedily() 5; ", holding("01100"), "extendGreedily() 0; ", holding("01100"), "undo() 5; undo() 0; ",
                throwing("undo()", NOTHING));
        holds("setFamily(0, 1, 1) 1; extendGreedily() 1; ", holding("0"), "extendGreedily() 0; ");
        holds("setFamily(1, 3, 3) 6; ", reading("00"), "extendGreedily() 0; ", holding("00"));
    }

    @Sentence(ENDS)
    static void promise32SequenceHas240Symbols() {
        holds(reading("0".repeat(240)), "extendGreedily() 0; length() 240; undo() 240; undo() 0; ");
        holds(reading("0".repeat(239)), "extendGreedily() 1; length() 240; symbolAt(239) 1; extendGreedily() 0; ");
        holds(reading("0".repeat(238)), "extendGreedily() 2; length() 240; symbolAt(238) 1; symbolAt(239) 1; ");
        holds(reading("0".repeat(237)), "extendGreedily() 3; length() 240; symbolAt(237) 1; symbolAt(238) 1; symbolAt(239) 0; ");
        holds(reading("0".repeat(236)), "extendGreedily() 3; length() 239; ");
    }

    private static final String ZEROS = "As long as the sequence would have fewer than n symbols, symbol 0 is appended instead.";

    @Sentence({ZEROS, "Returns the number of symbols that were appended."})
    static void promise32FewerThanNSymbols() {
        String five = "setFamily(0, 5, 1) 1; ";
        holds(five, "extendGreedily() 5; ", holding("00000"));
        holds(five, reading("000"), "extendGreedily() 2; ", holding("00000"));
        holds(five, reading("0000"), "extendGreedily() 1; ", holding("00000"));
        holds(five, reading("00000"), "extendGreedily() 0; ", holding("00000"));
    }

    @Sentence(ZEROS)
    static void promise32NoZeroForTheNthSymbol() {
        holds("setFamily(0, 3, 2) 8; extendGreedily() 10; ", holding("0011101000"));
        holds("setFamily(0, 3, 2) 8; append(1) 1; extendGreedily() 8; ", holding("101110010"));
        holds("setFamily(0, 3, 2) 8; append(1) 1; append(1) 2; extendGreedily() 4; ", holding("111011"));
        holds("setFamily(0, 1, 3) 3; extendGreedily() 3; ", holding("210"));
        holds("extendGreedily() 5; symbolAt(0) 0; symbolAt(1) 1; ");
    }

    @Sentence(ZEROS)
    static void promise32ZerosEvenIfNoWindowCanShowThem() {
        holds("setFamily(1, 3, 3) 6; extendGreedily() 2; ", holding("00"));
        holds("setFamily(1, 3, 3) 6; append(0) 1; extendGreedily() 1; ", holding("00"));
        holds("setFamily(1, 3, 3) 6; append(1) 1; extendGreedily() 4; ", holding("10210"));
        holds("setFamily(3, 5, 5) 1; extendGreedily() 4; ", holding("0000"));
    }
}
