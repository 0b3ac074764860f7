/** Promises 15 to 25: what the windows show. */
final class WindowBounds extends Bounds {
    private static final String FULL = reading("0".repeat(239) + "1");
    private static final long ALL_BITS = (1L << 50) - 1;

    @Sentence({"Returns the element that a window shows.", "`position`: the position of the window",
        "Throws `IndexOutOfBoundsException` if there is no such position"})
    static void promise15NoSuchPosition() {
        holds(reading("011"), "shownAt(0) 1; shownAt(2) 2; ");
        refused(INDEX, LIVED, each("shownAt(#)", LOWEST, -1, 3, GREATEST));
        refused(INDEX, "", each("shownAt(#)", -1, 0));
        holds(FULL, "shownAt(0) 0; shownAt(238) 1; shownAt(239) 2; ");
        refused(INDEX, FULL, "shownAt(240)");
    }

    @Sentence({"Returns the element, or NONE if the window shows none.", "A window shows an element of the family, or none.",
        "With the other kinds it shows none if two of its symbols are equal.",
        "`NONE = -1`: Returned by methods that look for something and find nothing."})
    static void promise15NoneIfTwoSymbolsAreEqual() {
        Check.due("promise15NoneIfTwoSymbolsAreEqual", "NONE", String.valueOf(UniversalCycles.NONE), "-1");
        holds("setFamily(1, 3, 4) 6; ", reading("0103"), answers("shownAt(#)", -1, 2, -1, 4));
        holds("setFamily(2, 3, 4) 24; ", reading("0120"), answers("shownAt(#)", 0, 8, -1, -1));
        holds("setFamily(3, 2, 4) 6; ", reading("3122"), answers("shownAt(#)", 4, 3, -1, 5));
        holds("setFamily(3, 5, 8) 56; ", reading("765430"), "shownAt(0) 55; setSymbol(4, 7) 3; shownAt(0) -1; ");
    }

    @Sentence({"With kind 0 it shows itself.", "Returns the element, or NONE if the window shows none."})
    static void promise15WordsShowThemselves() {
        holds(reading("0011"), answers("shownAt(#)", 0, 1, 3, 2));
        holds("setFamily(0, 2, 8) 64; ", reading("770"), answers("shownAt(#)", 63, 56, 7));
        holds("setFamily(0, 1, 3) 3; ", reading("021"), answers("shownAt(#)", 0, 2, 1));
    }

    @Sentence("Otherwise it shows, with kind 1, the permutation whose number at each place is the number of symbols of the window that are "
            + "less than the symbol at this place; with kind 2, itself; with kind 3, the set of its symbols.")
    static void promise15DifferentSymbols() {
        holds("setFamily(1, 3, 6) 6; ", reading("41350"), answers("shownAt(#)", 4, 0, 3, 4, 1));
        holds("setFamily(1, 2, 8) 2; ", reading("70"), answers("shownAt(#)", 1, 0));
        holds("setFamily(1, 1, 8) 1; ", reading("70"), answers("shownAt(#)", 0, 0));
        holds("setFamily(2, 2, 3) 6; ", reading("201"), answers("shownAt(#)", 4, 0, 3));
        holds("setFamily(3, 3, 5) 10; ", reading("420"), answers("shownAt(#)", 4, 4, 4));
    }

    @Sentence({"It is read as a cycle: the position after the last one is position 0.",
        "For a sequence of at least one symbol, the window at a position consists of the symbols at this position and at the n - 1 "
        + "following ones; if the sequence is shorter than n, the window runs through it more than once."})
    static void promise15WindowsGoRound() {
        holds("setFamily(0, 3, 2) 8; ", reading("0011"), answers("shownAt(#)", 1, 3, 6, 4));
        holds("setFamily(0, 5, 2) 32; ", reading("10000"), answers("shownAt(#)", 16, 1, 2, 4, 8));
        holds("setFamily(0, 1, 2) 2; ", reading("10"), answers("shownAt(#)", 1, 0));
        holds("setFamily(0, 5, 2) 32; ", reading("1".repeat(239) + "0"), "shownAt(239) 15; shownAt(238) 23; shownAt(235) 30; shownAt(234) 31; ");
    }

    @Sentence("For a sequence of at least one symbol, the window at a position consists of the symbols at this position and at the n - 1 "
            + "following ones; if the sequence is shorter than n, the window runs through it more than once.")
    static void promise15SequenceShorterThanTheWindow() {
        holds("setFamily(0, 5, 2) 32; append(1) 1; shownAt(0) 31; append(0) 2; ", answers("shownAt(#)", 21, 10),
                "append(0) 3; ", answers("shownAt(#)", 18, 4, 9), "append(0) 4; ", answers("shownAt(#)", 17, 2, 4, 8));
        holds("setFamily(2, 3, 3) 6; append(0) 1; shownAt(0) -1; append(1) 2; ", answers("shownAt(#)", -1, -1),
                "append(2) 3; ", answers("shownAt(#)", 0, 3, 4));
    }

    @Sentence({"Returns the number of windows that show an element.", "`element`: the element",
        "Throws `IndexOutOfBoundsException` if there is no such element"})
    static void promise16NoSuchElement() {
        holds(reading("011"), "occurrences(0) 0; occurrences(3) 1; ");
        refused(INDEX, LIVED, each("occurrences(#)", LOWEST, -1, 4, GREATEST));
        refused(INDEX, "setFamily(0, 3, 5) 125; ", each("occurrences(#)", -1, 125));
        refused(INDEX, "setFamily(0, 3, 5) 125; setFamily(3, 5, 5) 1; ", "occurrences(1)");
    }

    @Sentence("Returns the number of windows.")
    static void promise16NoWindowsAndAllWindows() {
        holds(answers("occurrences(#)", 0, 0, 0, 0), "append(1) 1; ", answers("occurrences(#)", 0, 0, 0, 1));
        holds(FULL, answers("occurrences(#)", 238, 1, 1, 0), "setSymbol(239, 0) 1; ", answers("occurrences(#)", 240, 0, 0, 0));
        holds("setFamily(2, 2, 2) 2; ", reading("0001"), answers("occurrences(#)", 1, 1));
        holds("setFamily(0, 5, 2) 32; append(1) 1; occurrences(31) 1; occurrences(0) 0; ");
    }

    @Sentence({"Returns the lowest position whose window shows an element.", "`element`: the element",
        "Throws `IndexOutOfBoundsException` if there is no such element"})
    static void promise17NoSuchElement() {
        holds(reading("0011"), answers("locate(#)", 0, 1, 3, 2));
        refused(INDEX, LIVED, each("locate(#)", LOWEST, -1, 4, GREATEST));
        refused(INDEX, "", each("locate(#)", -1, 4));
        refused(INDEX, "setFamily(0, 3, 5) 125; setFamily(3, 2, 4) 6; ", "locate(6)");
    }

    @Sentence("Throws `NoSuchElementException` if no window shows it")
    static void promise17NoWindowShowsIt() {
        refused(NOTHING, "", each("locate(#)", 0, 3));
        refused(NOTHING, LIVED, each("locate(#)", 1, 2, 3));
        refused(NOTHING, "setFamily(2, 2, 3) 6; " + LIVED, each("locate(#)", 0, 5));
        refused(NOTHING, reading("0011") + "clear() 4; ", "locate(0)");
        holds("append(1) 1; locate(3) 0; ", throwing("locate(0)", NOTHING));
    }

    @Sentence("Returns the position.")
    static void promise17LowestPosition() {
        holds(reading("0001"), "locate(0) 0; locate(1) 2; locate(2) 3; ");
        holds(reading("10101"), "locate(2) 0; locate(1) 1; locate(3) 4; ");
        holds(FULL, "locate(0) 0; locate(1) 238; locate(2) 239; ");
    }

    @Sentence({"Returns the lowest position whose window shows no element.",
        "Returns the position, or NONE if every window shows an element."})
    static void promise18NoneOrLowestPosition() {
        holds("firstInvalid() -1; append(0) 1; firstInvalid() -1; ");
        holds("setFamily(2, 2, 3) 6; firstInvalid() -1; append(0) 1; firstInvalid() 0; append(1) 2; firstInvalid() -1; append(0) 3; "
                + "firstInvalid() 2; append(0) 4; firstInvalid() 2; setSymbol(1, 0) 1; firstInvalid() 0; ");
        holds("setFamily(3, 1, 2) 2; ", reading("000"), "firstInvalid() -1; ");
        holds("setFamily(2, 2, 2) 2; ", reading("01".repeat(120)), "firstInvalid() -1; setSymbol(239, 0) 1; firstInvalid() 238; ");
        holds("setFamily(2, 2, 3) 6; ", reading("01".repeat(119) + "20"), "firstInvalid() 239; ");
    }

    @Sentence({"Returns the lowest position whose window shows an element that the window at a lower position shows, too.",
        "Returns the position, or NONE if there is none."})
    static void promise19NoneOrLowestPosition() {
        holds("firstRepeat() -1; append(0) 1; firstRepeat() -1; append(0) 2; firstRepeat() 1; append(0) 3; firstRepeat() 1; ");
        holds(reading("0011"), "firstRepeat() -1; append(1) 5; firstRepeat() 3; ");
        holds(reading("0010"), "firstRepeat() 3; ");
        holds(reading("0101"), "firstRepeat() 2; ");
        holds("setFamily(0, 3, 5) 125; search(425) 425; firstRepeat() -1; setSymbol(124, 0) 4; firstRepeat() 124; ");
    }

    @Sentence("Returns the lowest position whose window shows an element that the window at a lower position shows, too.")
    static void promise19WindowsThatShowNoneAreNoRepeat() {
        holds("setFamily(2, 2, 3) 6; ", reading("000"), "firstRepeat() -1; ", reading("0011"), "firstRepeat() -1; ");
        holds("setFamily(3, 2, 4) 6; ", reading("0001"), "firstRepeat() 3; ");
    }

    @Sentence({"Returns the lowest element that no window shows.", "Returns the element, or NONE if every element is shown."})
    static void promise20NoneOrLowestElement() {
        holds("firstMissing() 0; append(1) 1; firstMissing() 0; setSymbol(0, 0) 1; firstMissing() 1; ");
        holds(reading("001"), "firstMissing() 3; append(1) 4; firstMissing() -1; append(1) 5; firstMissing() -1; ");
        holds("setFamily(0, 1, 1) 1; firstMissing() 0; append(0) 1; firstMissing() -1; ");
        holds("setFamily(3, 5, 5) 1; ", reading("01234"), "firstMissing() -1; setSymbol(0, 1) 0; firstMissing() 0; ");
        holds("setFamily(0, 1, 8) 8; ", reading("0123456"), "firstMissing() 7; append(7) 8; firstMissing() -1; ");
    }

    @Sentence({"Returns whether the sequence is universal.", "Returns true if it is universal.",
        "A sequence is universal if each element of the family is shown by exactly one of its windows and each window shows an element."})
    static void promise21EmptySequence() {
        holds("isUniversal() false; setFamily(0, 1, 1) 1; isUniversal() false; append(0) 1; isUniversal() true; clear() 1; "
                + "isUniversal() false; setFamily(3, 5, 5) 1; isUniversal() false; ");
    }

    @Sentence("A sequence is universal if each element of the family is shown by exactly one of its windows and each window shows an "
            + "element.")
    static void promise21OneElementMissingOrRepeated() {
        holds(reading("001"), "isUniversal() false; append(1) 4; isUniversal() true; append(1) 5; isUniversal() false; undo() 4; "
                + "isUniversal() true; setSymbol(3, 0) 1; isUniversal() false; ");
        holds("setFamily(0, 1, 1) 1; append(0) 1; isUniversal() true; append(0) 2; isUniversal() false; ");
        holds("setFamily(0, 1, 3) 3; ", reading("201"), "isUniversal() true; append(1) 4; isUniversal() false; ");
    }

    @Sentence("A sequence is universal if each element of the family is shown by exactly one of its windows and each window shows an "
            + "element.")
    static void promise21OneWindowShowsNone() {
        holds("setFamily(2, 2, 2) 2; ", reading("01"), "isUniversal() true; ", reading("001"), "isUniversal() false; occurrences(0) 1; "
                + "occurrences(1) 1; firstRepeat() -1; firstMissing() -1; ");
        holds("setFamily(3, 2, 3) 3; ", reading("012"), "isUniversal() true; ", reading("0122"), "firstMissing() -1; firstRepeat() -1; "
                + "isUniversal() false; ");
    }

    @Sentence({"Returns which elements are shown, 50 of them at a time.", "`part`: 0 to 3",
        "Throws `IllegalArgumentException` if the part is out of range"})
    static void promise22PartOutOfRange() {
        holds("append(1) 1; shownBits(0) 8; shownBits(1) 0; shownBits(2) 0; shownBits(3) 0; ");
        refused(ARGUMENT, LIVED, each("shownBits(#)", LOWEST, -1, 4, GREATEST));
        refused(ARGUMENT, "", each("shownBits(#)", -1, 4));
    }

    @Sentence("Returns a bit mask in which bit i is 1 if element 50 * part + i is shown by some window; i is 0 to 49.")
    static void promise22LastBitOfAPartAndFirstOfTheNext() {
        holds("setFamily(0, 2, 8) 64; ", reading("61"), "shownBits(0) " + ((1L << 49) | (1L << 14)) + "; shownBits(1) 0; ");
        holds("setFamily(0, 2, 8) 64; ", reading("62"), "shownBits(0) " + (1L << 22) + "; shownBits(1) 1; ");
        holds("setFamily(0, 2, 8) 64; ", reading("7"), "shownBits(0) 0; shownBits(1) " + (1L << 13) + "; ");
        holds("setFamily(0, 3, 5) 125; ", reading("344"),
                "shownBits(0) 0; shownBits(1) " + (1L << 49) + "; shownBits(2) " + ((1L << 23) | (1L << 19)) + "; shownBits(3) 0; ");
        holds("setFamily(0, 3, 5) 125; ", reading("400"),
                "shownBits(0) " + ((1L << 4) | (1L << 20)) + "; shownBits(1) 0; shownBits(2) 1; shownBits(3) 0; ");
    }

    @Sentence("Returns a bit mask in which bit i is 1 if element 50 * part + i is shown by some window; i is 0 to 49.")
    static void promise22NoneShownAndAllShown() {
        holds("shownBits(0) 0; shownBits(3) 0; ");
        holds("setFamily(2, 2, 3) 6; ", reading("000"), "shownBits(0) 0; ");
        holds("setFamily(0, 2, 8) 64; search(336) 336; shownBits(0) " + ALL_BITS + "; shownBits(1) " + ((1L << 14) - 1) + "; shownBits(2) 0; ");
        holds("setFamily(0, 3, 5) 125; search(425) 425; shownBits(0) " + ALL_BITS + "; shownBits(1) " + ALL_BITS + "; shownBits(2) "
                + ((1L << 25) - 1) + "; shownBits(3) 0; ");
    }

    @Sentence({"Returns the length of the longest run.", "Returns the number of windows of the run, 0 if there is none."})
    static void promise23NoRun() {
        holds("longestRun() 0; append(1) 1; longestRun() 1; clear() 1; longestRun() 0; ");
        holds("setFamily(2, 2, 3) 6; longestRun() 0; append(0) 1; longestRun() 0; append(0) 2; longestRun() 0; append(1) 3; longestRun() 2; ");
    }

    private static final String RUN = "A run is a number of windows at consecutive positions of the cycle, at most as many as the sequence "
            + "has positions, that show elements, no two of them the same.";

    @Sentence(RUN)
    static void promise23AtMostAsManyAsPositions() {
        holds("append(0) 1; longestRun() 1; append(1) 2; longestRun() 2; ");
        holds(reading("0011"), "longestRun() 4; append(1) 5; longestRun() 4; ");
        holds("setFamily(0, 3, 5) 125; search(425) 425; longestRun() 125; longestRunStart() 0; ");
    }

    @Sentence(RUN)
    static void promise23RunGoesRound() {
        holds("setFamily(2, 2, 3) 6; ", reading("12002"), "longestRun() 4; ");
        holds("setFamily(2, 2, 3) 6; ", reading("1200"), "longestRun() 3; ");
        holds("setFamily(2, 2, 3) 6; ", reading("01200"), "longestRun() 3; ");
    }

    @Sentence(RUN)
    static void promise23RunEndsAtARepeat() {
        holds(reading("0000"), "longestRun() 1; ");
        holds(reading("0100"), "longestRun() 3; ");
        holds(reading("01".repeat(120)), "longestRun() 2; ");
    }

    @Sentence("Throws `IllegalStateException` if the sequence is empty")
    static void promise24SequenceEmpty() {
        refused(STATE, "", "longestRunStart()");
        refused(STATE, LIVED + "clear() 3; ", "longestRunStart()");
        refused(STATE, LIVED + "setFamily(3, 2, 4) 6; ", "longestRunStart()");
        holds("append(1) 1; longestRunStart() 0; ");
    }

    @Sentence("It is 0 if no window shows an element.")
    static void promise24NoWindowShowsAnElement() {
        holds("setFamily(2, 2, 3) 6; append(0) 1; longestRunStart() 0; append(0) 2; longestRunStart() 0; append(0) 3; longestRunStart() 0; ");
        holds("setFamily(3, 5, 5) 1; ", reading("0011".repeat(60)), "longestRunStart() 0; longestRun() 0; ");
        holds("setFamily(2, 2, 3) 6; ", reading("1200"), "longestRunStart() 3; ", reading("000"), "longestRunStart() 0; longestRun() 0; ");
    }

    @Sentence({"Returns the lowest position at which a longest run starts.", "Returns the position."})
    static void promise24LowestOrLastPosition() {
        holds(reading("0100"), "longestRunStart() 0; ");
        holds(reading("0001"), "longestRun() 3; longestRunStart() 1; ");
        holds("setFamily(2, 2, 3) 6; ", reading("1200"), "longestRunStart() 3; ", reading("12002"), "longestRunStart() 3; ",
                reading("0012"), "longestRun() 3; longestRunStart() 1; ");
        holds("setFamily(2, 2, 3) 6; ", reading("0".repeat(238) + "12"), "longestRun() 3; longestRunStart() 237; ");
        holds("setFamily(2, 2, 3) 6; ", reading("12" + "0".repeat(238)), "longestRun() 3; longestRunStart() 239; ");
    }

    @Sentence({"Returns the number of different symbols in the sequence.", "Returns the number of symbols, 0 for the empty sequence."})
    static void promise25NoneAndAll() {
        holds("distinctSymbols() 0; append(1) 1; distinctSymbols() 1; append(1) 2; distinctSymbols() 1; append(0) 3; distinctSymbols() 2; "
                + "clear() 3; distinctSymbols() 0; ");
        holds("setFamily(0, 1, 8) 8; ", reading("0123456"), "distinctSymbols() 7; append(7) 8; distinctSymbols() 8; ");
        holds("setFamily(0, 1, 8) 8; ", reading("0".repeat(239) + "7"), "distinctSymbols() 2; ");
    }
}
