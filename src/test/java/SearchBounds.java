/** Promise 33: search. */
final class SearchBounds extends Bounds {
    @Sentence({"`limit`: the maximum number of steps, 1 to 30000", "Throws `IllegalArgumentException` if the limit is out of range"})
    static void promise33LimitOutOfRange() {
        holds("setFamily(0, 1, 1) 1; search(1) 1; ", holding("0"));
        holds("search(30000) 6; ", holding("0011"));
        refused(ARGUMENT, LIVED, each("search(#)", LOWEST, -1, 0, 30001, GREATEST));
    }

    @Sentence({"Throws `IllegalArgumentException` if the limit is out of range", "If several exceptions apply, the one named first is thrown."})
    static void promise33LimitOutOfRangeAndNoUniversalSequence() {
        refused(ARGUMENT, "setFamily(3, 2, 2) 1; " + LIVED, each("search(#)", 0, 30001));
    }

    private static final String LIMIT_REACHED = "Throws `IllegalStateException` if the limit is reached and neither a sequence was found "
            + "nor all trials were made";

    @Sentence({LIMIT_REACHED, "Returns the number of steps."})
    static void promise33LimitReachedBeforeASequenceIsFound() {
        holds("search(6) 6; ", holding("0011"));
        refused(STATE, LIVED, each("search(#)", 1, 5));
        holds("setFamily(1, 3, 4) 6; search(22) 22; ", holding("012032"));
        refused(STATE, "setFamily(1, 3, 4) 6; " + LIVED, each("search(#)", 1, 21));
        holds("setFamily(2, 4, 5) 120; search(18850) 18850; isUniversal() true; length() 120; symbolAt(119) 4; ");
        refused(STATE, "setFamily(2, 4, 5) 120; " + LIVED, "search(18849)");
    }

    @Sentence(LIMIT_REACHED)
    static void promise33LimitReachedBeforeAllTrialsAreMade() {
        refused(NOTHING, "setFamily(3, 2, 2) 1; " + LIVED, each("search(#)", 2, 3, 30000));
        refused(STATE, "setFamily(3, 2, 2) 1; " + LIVED, "search(1)");
        refused(NOTHING, "setFamily(1, 3, 3) 6; " + LIVED, "search(93)");
        refused(STATE, "setFamily(1, 3, 3) 6; " + LIVED, "search(92)");
        refused(NOTHING, "setFamily(3, 3, 5) 10; ", "search(19055)");
        refused(STATE, "setFamily(3, 3, 5) 10; ", "search(19054)");
    }

    @Sentence({LIMIT_REACHED, "If several exceptions apply, the one named first is thrown."})
    static void promise33GreatestLimitReached() {
        refused(STATE, "setFamily(3, 2, 6) 15; " + LIVED, "search(30000)");
    }

    @Sentence("Throws `NoSuchElementException` if there is no universal sequence")
    static void promise33NoUniversalSequence() {
        refused(NOTHING, "setFamily(3, 5, 5) 1; " + LIVED, each("search(#)", 5, 30000));
        refused(NOTHING, "setFamily(3, 2, 4) 6; " + reading("0123"), each("search(#)", 644, 30000));
        refused(NOTHING, "setFamily(2, 3, 3) 6; " + LIVED, each("search(#)", 93, 30000));
        refused(NOTHING, "setFamily(1, 5, 5) 120; " + LIVED, each("search(#)", 6905, 30000));
        holds("setFamily(3, 2, 3) 3; search(30000) 6; ", holding("012"));
    }

    @Sentence("Searches for the lexicographically lowest universal sequence whose length is the number of elements.")
    static void promise33FewestAndMostElements() {
        holds("setFamily(0, 5, 1) 1; search(1) 1; ", holding("0"), "isUniversal() true; ");
        holds("setFamily(1, 1, 8) 1; search(1) 1; ", holding("0"), "isUniversal() true; ");
        holds("setFamily(0, 3, 5) 125; search(425) 425; length() 125; isUniversal() true; symbolAt(0) 0; symbolAt(2) 0; symbolAt(3) 1; "
                + "symbolAt(124) 4; ");
        holds("setFamily(0, 3, 2) 8; search(14) 14; ", holding("00010111"));
        holds("setFamily(2, 2, 3) 6; search(15) 15; ", holding("010212"));
        holds("setFamily(3, 3, 4) 4; search(14) 14; ", holding("0123"));
    }

    @Sentence({"The search sets the positions from 0 on and tries the symbols of each in ascending order; it goes back to the previous "
        + "position when no symbol is left.", "Each trial of a symbol is one step."})
    static void promise33EachTrialIsOneStep() {
        holds("setFamily(0, 1, 2) 2; search(3) 3; ", holding("01"));
        refused(STATE, "setFamily(0, 1, 2) 2; ", "search(2)");
        holds("setFamily(0, 1, 8) 8; search(36) 36; ", holding("01234567"));
        refused(STATE, "setFamily(0, 1, 8) 8; ", "search(35)");
        holds("setFamily(1, 2, 8) 2; search(3) 3; ", holding("01"));
        holds("setFamily(1, 4, 6) 24; search(907) 907; ", holding("012301420312034215021543"));
        refused(STATE, "setFamily(1, 4, 6) 24; ", "search(906)");
    }

    @Sentence("The search sets the positions from 0 on and tries the symbols of each in ascending order; it goes back to the previous "
            + "position when no symbol is left.")
    static void promise33BeginsAnewAfterARefusedSearch() {
        holds("setFamily(3, 2, 2) 1; ", throwing("search(2)", NOTHING), "setFamily(0, 2, 2) 4; search(6) 6; ", holding("0011"));
        holds(throwing("search(5)", STATE), throwing("search(4)", STATE), "search(6) 6; ", holding("0011"), throwing("search(5)", STATE));
    }

    @Sentence("A trial fails if a window that ends at this position shows no element or an element that a lower window shows; for the last "
            + "position, all windows that run beyond it are checked in this way, too.")
    static void promise33WindowsBeyondTheLastPosition() {
        holds("search(6) 6; symbolAt(3) 1; isUniversal() true; ");
        holds("setFamily(0, 5, 2) 32; search(60) 60; isUniversal() true; ", holding("00000100011001010011101011011111"));
        refused(STATE, "setFamily(0, 5, 2) 32; ", "search(59)");
        holds("setFamily(3, 3, 7) 35; search(19677) 19677; ", holding("01230142051260341562435046325461356"), "isUniversal() true; ");
    }

    @Sentence("The sequence that is found replaces the present one.")
    static void promise33ReplacesThePresentSequence() {
        holds(reading("111"), "search(6) 6; ", holding("0011"), "search(6) 6; ", holding("0011"), "undo() 4; undo() 3; ", holding("111"));
        holds(reading("1".repeat(240)), "search(6) 6; ", holding("0011"), "undo() 240; symbolAt(239) 1; ");
    }
}
