/** Promises 1 to 4: a new object, setFamily, elementCount, elementAt. */
final class FamilyBounds extends Bounds {
    private static final String REFUSED_FAMILY = "Throws `IllegalArgumentException` if an argument is out of range, if the kind is not 0 and "
            + "n is greater than the number of symbols, or if the family would have more than 200 elements";

    @Sentence({"Creates a workbench with the family of words of length 2 over 2 symbols and an empty sequence.",
        "A new object has the words with n = 2 and k = 2 as its family."})
    static void promise01WordsOfLength2Over2Symbols() {
        holds(elements("00", "01", "10", "11"), "vertexCount() 2; append(1) 1; append(0) 2; ");
        refused(ARGUMENT, "", each("append(#)", -1, 2));
    }

    @Sentence({"Creates a workbench with the family of words of length 2 over 2 symbols and an empty sequence.",
        "The object holds one sequence of 0 to 240 symbols, which is empty at first."})
    static void promise01EmptySequence() {
        holds("length() 0; write() 0; shownBits(0) 0; clear() 0; undo() 0; ");
        refused(INDEX, "", "symbolAt(0)", "symbolAt(-1)", "setSymbol(0, 0)", "shownAt(0)", "rotate(0)");
        refused(STATE, "", "longestRunStart()", "rotateToLowest()");
    }

    @Sentence("Creates a workbench with the family of words of length 2 over 2 symbols and an empty sequence.")
    static void promise01NoHistoryNoTextsNothingSaved() {
        refused(NOTHING, "", "undo()");
        refused(INDEX, "", "outputAt(0)");
        refused(STATE, "", "restore()");
        holds("read() 0; ");
        holds("feed('1') 1; ");
    }

    @Sentence({"`kind`: the kind, 0 to 3", "Sets the family.", REFUSED_FAMILY})
    static void promise02KindOutOfRange() {
        holds("setFamily(0, 1, 1) 1; ", elements("0"));
        holds("setFamily(3, 1, 1) 1; ", elements("0"), throwing("vertexCount()", UNSUPPORTED));
        holds("setFamily(0, 2, 3) 9; setFamily(1, 2, 3) 2; setFamily(2, 2, 3) 6; setFamily(3, 2, 3) 3; ");
        refused(ARGUMENT, LIVED, each("setFamily(#, 1, 1)", LOWEST, -1, 4, GREATEST));
        refused(ARGUMENT, LIVED, each("setFamily(#, 2, 2)", -1, 4));
    }

    @Sentence({"`n`: the window length, 1 to 5",
        "A family has a kind, a window length n from 1 to 5 and a number k of symbols from 1 to 8.", REFUSED_FAMILY})
    static void promise02LengthOutOfRange() {
        holds("setFamily(0, 1, 8) 8; setFamily(0, 5, 1) 1; ", elements("00000"));
        holds("setFamily(1, 1, 8) 1; setFamily(1, 5, 8) 120; setFamily(2, 1, 5) 5; setFamily(2, 5, 5) 120; setFamily(3, 1, 8) 8; "
                + "setFamily(3, 5, 8) 56; ");
        refused(ARGUMENT, LIVED, each("setFamily(0, #, 1)", LOWEST, -1, 0, 6, GREATEST));
        refused(ARGUMENT, LIVED, each("setFamily(1, #, 8)", 0, 6));
        refused(ARGUMENT, LIVED, each("setFamily(2, #, 8)", 0, 6));
        refused(ARGUMENT, LIVED, each("setFamily(3, #, 8)", 0, 6));
    }

    @Sentence({"`symbols`: the number k of symbols, 1 to 8",
        "A family has a kind, a window length n from 1 to 5 and a number k of symbols from 1 to 8.", REFUSED_FAMILY})
    static void promise02NumberOfSymbolsOutOfRange() {
        holds("setFamily(0, 1, 1) 1; setFamily(0, 1, 8) 8; setFamily(0, 5, 1) 1; setFamily(0, 2, 8) 64; ");
        holds("setFamily(1, 1, 1) 1; setFamily(1, 1, 8) 1; setFamily(2, 1, 1) 1; setFamily(2, 1, 8) 8; setFamily(3, 1, 1) 1; "
                + "setFamily(3, 1, 8) 8; ");
        refused(ARGUMENT, LIVED, each("setFamily(0, 1, #)", LOWEST, -1, 0, 9, GREATEST));
        refused(ARGUMENT, LIVED, each("setFamily(1, 1, #)", 0, 9));
        refused(ARGUMENT, LIVED, each("setFamily(2, 1, #)", 0, 9));
        refused(ARGUMENT, LIVED, each("setFamily(3, 1, #)", 0, 9));
    }

    @Sentence({"For the kinds 1, 2 and 3, n is at most k.", REFUSED_FAMILY})
    static void promise02LengthGreaterThanNumberOfSymbols() {
        int factorial = 1;
        for (int n = 2; n <= 5; n++) {
            factorial *= n;
            holds("setFamily(1, " + n + ", " + n + ") " + factorial + "; setFamily(2, " + n + ", " + n + ") " + factorial
                    + "; setFamily(3, " + n + ", " + n + ") 1; ");
            refused(ARGUMENT, LIVED, each("setFamily(#, " + n + ", " + (n - 1) + ")", 1, 2, 3));
        }
    }

    @Sentence("For the kinds 1, 2 and 3, n is at most k.")
    static void promise02WordsMayBeLongerThanTheNumberOfSymbols() {
        holds("setFamily(0, 2, 1) 1; setFamily(0, 5, 1) 1; setFamily(0, 3, 2) 8; setFamily(0, 5, 2) 32; setFamily(0, 4, 3) 81; ");
    }

    @Sentence({"A family has at most 200 elements.", REFUSED_FAMILY})
    static void promise02MoreThan200Elements() {
        holds("setFamily(0, 3, 5) 125; setFamily(0, 4, 3) 81; setFamily(0, 5, 2) 32; ");
        refused(ARGUMENT, LIVED, "setFamily(0, 3, 6)", "setFamily(0, 4, 4)", "setFamily(0, 5, 3)", "setFamily(0, 5, 8)");
        holds("setFamily(2, 3, 6) 120; setFamily(2, 4, 5) 120; setFamily(2, 5, 5) 120; ");
        refused(ARGUMENT, LIVED, "setFamily(2, 3, 7)", "setFamily(2, 4, 6)", "setFamily(2, 5, 6)", "setFamily(2, 5, 8)");
        holds("setFamily(1, 5, 5) 120; setFamily(1, 5, 8) 120; setFamily(3, 4, 8) 70; setFamily(3, 3, 8) 56; ");
    }

    @Sentence("The sequence and the history become empty; the buffers stay.")
    static void promise02SequenceAndHistoryBecomeEmpty() {
        refused(NOTHING, "append(1) 1; append(0) 2; setFamily(0, 2, 3) 9; ", "undo()");
        refused(INDEX, "append(1) 1; append(0) 2; setFamily(0, 2, 3) 9; ", "symbolAt(0)");
        holds("append(1) 1; append(0) 2; setFamily(0, 2, 3) 9; length() 0; append(2) 1; ", holding("2"), "undo() 0; ",
                throwing("undo()", NOTHING));
        holds("append(1) 1; setFamily(0, 2, 2) 4; length() 0; ", throwing("undo()", NOTHING));
    }

    @Sentence("The sequence and the history become empty; the buffers stay.")
    static void promise02BuffersStay() {
        holds("feed('1') 1; feed('2') 2; append(1) 1; append(0) 2; write() 2; setFamily(0, 1, 3) 3; outputAt(0) 1; outputAt(1) 0; ",
                throwing("outputAt(2)", INDEX), "feed('0') 3; read() 3; ", holding("120"));
        holds("feed('1') 1; setFamily(0, 1, 1) 1; read() -100; ");
    }

    @Sentence("Returns the number of elements.")
    static void promise02ReturnsTheNumberOfElements() {
        holds("setFamily(0, 1, 1) 1; elementCount() 1; setFamily(0, 3, 5) 125; elementCount() 125; setFamily(2, 3, 6) 120; "
                + "elementCount() 120; setFamily(3, 4, 8) 70; elementCount() 70; setFamily(3, 5, 5) 1; elementCount() 1; ");
    }

    @Sentence({"Returns the number of elements of the family.", "Returns the number of elements."})
    static void promise03FewestAndMostElements() {
        holds("elementCount() 4; setFamily(0, 5, 1) 1; elementCount() 1; setFamily(0, 3, 5) 125; elementCount() 125; ");
        holds("setFamily(3, 2, 4) 6; ", throwing("setFamily(0, 3, 6)", ARGUMENT), "elementCount() 6; append(0) 1; elementCount() 6; ");
    }

    @Sentence({"Returns one number of the sequence as which an element is written.", "`element`: the element", "Returns the number.",
        "Throws `IndexOutOfBoundsException` if there is no such element or place"})
    static void promise04NoSuchElement() {
        holds("elementAt(0, 1) 0; elementAt(3, 1) 1; setFamily(0, 3, 5) 125; elementAt(124, 2) 4; elementAt(123, 2) 3; "
                + "setFamily(0, 5, 1) 1; elementAt(0, 4) 0; ");
        refused(INDEX, LIVED, each("elementAt(#, 0)", LOWEST, -1, 4, GREATEST));
        refused(INDEX, "setFamily(0, 3, 5) 125; ", each("elementAt(#, 0)", -1, 125));
        refused(INDEX, "setFamily(3, 5, 5) 1; ", each("elementAt(#, 0)", -1, 1));
        refused(INDEX, "setFamily(0, 3, 5) 125; setFamily(2, 2, 3) 6; ", "elementAt(6, 0)");
    }

    @Sentence({"`i`: the place in the sequence, 0 to n - 1",
        "Throws `IndexOutOfBoundsException` if there is no such element or place"})
    static void promise04NoSuchPlace() {
        holds("elementAt(2, 0) 1; elementAt(2, 1) 0; setFamily(0, 1, 8) 8; elementAt(7, 0) 7; setFamily(1, 5, 5) 120; "
                + "elementAt(119, 0) 4; elementAt(119, 4) 0; ");
        refused(INDEX, LIVED, each("elementAt(2, #)", LOWEST, -1, 2, GREATEST));
        refused(INDEX, "setFamily(0, 1, 8) 8; ", each("elementAt(7, #)", -1, 1));
        refused(INDEX, "setFamily(1, 5, 5) 120; ", each("elementAt(119, #)", -1, 5));
        refused(INDEX, LIVED, "elementAt(4, 2)", "elementAt(-1, -1)");
    }

    @Sentence({"They are numbered from 0 in lexicographic order of these sequences.", "kind 0, words: all sequences of n symbols;"})
    static void promise04Words() {
        holds("setFamily(0, 2, 3) 9; ", elements("00", "01", "02", "10", "11", "12", "20", "21", "22"));
        holds("setFamily(0, 1, 3) 3; ", elements("0", "1", "2"));
        holds("setFamily(0, 5, 1) 1; ", elements("00000"));
    }

    @Sentence({"They are numbered from 0 in lexicographic order of these sequences.",
        "kind 1, order patterns: all permutations of the integers 0 to n - 1, written as sequences;"})
    static void promise04OrderPatterns() {
        holds("setFamily(1, 3, 8) 6; ", elements("012", "021", "102", "120", "201", "210"));
        holds("setFamily(1, 1, 8) 1; ", elements("0"));
        holds("setFamily(1, 2, 2) 2; ", elements("01", "10"));
    }

    @Sentence({"They are numbered from 0 in lexicographic order of these sequences.",
        "kind 2, arrangements: all sequences of n different symbols;"})
    static void promise04Arrangements() {
        holds("setFamily(2, 2, 3) 6; ", elements("01", "02", "10", "12", "20", "21"));
        holds("setFamily(2, 3, 3) 6; ", elements("012", "021", "102", "120", "201", "210"));
        holds("setFamily(2, 1, 3) 3; ", elements("0", "1", "2"));
    }

    @Sentence({"They are numbered from 0 in lexicographic order of these sequences.",
        "kind 3, subsets: all sets of n different symbols, written as ascending sequences."})
    static void promise04Subsets() {
        holds("setFamily(3, 2, 4) 6; ", elements("01", "02", "03", "12", "13", "23"));
        holds("setFamily(3, 5, 6) 6; ", elements("01234", "01235", "01245", "01345", "02345", "12345"));
        holds("setFamily(3, 5, 5) 1; ", elements("01234"));
        holds("setFamily(3, 1, 3) 3; ", elements("0", "1", "2"));
    }
}
