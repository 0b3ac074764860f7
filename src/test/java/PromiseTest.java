/** Promise by promise: ordinary inputs, the edges that the document names, and wrong inputs. */
public final class PromiseTest {
    private static final String INDEX = " throws IndexOutOfBoundsException; ";
    private static final String ARGUMENT = " throws IllegalArgumentException; ";
    private static final String STATE = " throws IllegalStateException; ";
    private static final String NOTHING = " throws NoSuchElementException; ";
    private static final String UNSUPPORTED = " throws UnsupportedOperationException; ";
    private static final int LOWEST = Integer.MIN_VALUE;
    private static final int GREATEST = Integer.MAX_VALUE;

    private static String wrongs(String before, String after, String answer, int... values) {
        StringBuilder calls = new StringBuilder();
        for (int value : values) {
            calls.append(before).append(value).append(after).append(answer);
        }
        return calls.toString();
    }

    private static void families() {
        Check.due("the constant", "NONE", String.valueOf(UniversalCycles.NONE), "-1");
        Check.script("1 a new object", "elementCount() 4; length() 0; vertexCount() 2; elementAt(3, 1) 1; undo()" + NOTHING
                + "outputAt(0)" + INDEX + "restore()" + STATE + "append(2)" + ARGUMENT + "append(1) 1; feed('0') 1");
        Check.script("2 sizes", "setFamily(0, 5, 2) 32; setFamily(0, 2, 8) 64; setFamily(0, 4, 3) 81; setFamily(0, 5, 1) 1;"
                + "setFamily(0, 3, 5) 125; setFamily(1, 5, 5) 120; setFamily(1, 5, 8) 120; setFamily(1, 1, 1) 1;"
                + "setFamily(2, 3, 6) 120; setFamily(2, 5, 5) 120; setFamily(2, 2, 8) 56; setFamily(3, 4, 8) 70;"
                + "setFamily(3, 5, 8) 56; setFamily(3, 5, 5) 1; setFamily(3, 1, 8) 8");
        Check.script("2 wrong families", wrongs("setFamily(", ", 1, 1)", ARGUMENT, LOWEST, -1, 4, GREATEST)
                + wrongs("setFamily(0, ", ", 1)", ARGUMENT, LOWEST, -1, 0, 6, GREATEST)
                + wrongs("setFamily(0, 1, ", ")", ARGUMENT, LOWEST, -1, 0, 9, GREATEST)
                + "setFamily(0, 3, 6)" + ARGUMENT + "setFamily(0, 4, 4)" + ARGUMENT + "setFamily(0, 5, 3)" + ARGUMENT
                + "setFamily(2, 3, 7)" + ARGUMENT + "setFamily(2, 5, 6)" + ARGUMENT + "setFamily(1, 4, 3)" + ARGUMENT
                + "setFamily(2, 3, 2)" + ARGUMENT + "setFamily(3, 5, 4)" + ARGUMENT + "elementCount() 4");
        Check.script("2 what it empties", "append(1) 1; feed('1') 1; write() 1; setFamily(0, 2, 3) 9; length() 0; undo()" + NOTHING
                + "outputAt(0) 1; feed('2') 2; read() 2; symbolAt(1) 2");
        Check.script("2 a wrong call changes nothing", "append(1) 1; setFamily(0, 2, 9)" + ARGUMENT + "length() 1; undo() 0");
        Check.script("3 elementCount", "elementCount() 4; setFamily(3, 2, 4) 6; elementCount() 6; append(3) 1; elementCount() 6");
        Check.script("4 words", "setFamily(0, 3, 3) 27; elementAt(5, 0) 0; elementAt(5, 1) 1; elementAt(5, 2) 2;"
                + "elementAt(26, 0) 2");
        Check.script("4 order patterns", "setFamily(1, 3, 8) 6; elementAt(3, 0) 1; elementAt(3, 1) 2; elementAt(3, 2) 0");
        Check.script("4 arrangements", "setFamily(2, 2, 4) 12; elementAt(4, 0) 1; elementAt(4, 1) 2; elementAt(11, 0) 3;"
                + "elementAt(11, 1) 2");
        Check.script("4 subsets", "setFamily(3, 2, 4) 6; elementAt(2, 0) 0; elementAt(2, 1) 3; elementAt(5, 0) 2; elementAt(5, 1) 3");
        Check.script("4 wrong places", wrongs("elementAt(", ", 0)", INDEX, LOWEST, -1, 4, GREATEST)
                + wrongs("elementAt(0, ", ")", INDEX, LOWEST, -1, 2, GREATEST));
    }

    private static void symbols() {
        Check.script("5 append", "append(1) 1; append(0) 2; " + Check.holding("10") + "undo() 1; " + Check.holding("1"));
        Check.script("5 wrong", wrongs("append(", ")", ARGUMENT, LOWEST, -1, 2, GREATEST) + "length() 0; undo()" + NOTHING);
        Check.script("5 full", Check.counted("append(1)", 1, 240) + "append(1)" + STATE + "append(2)" + ARGUMENT
                + "length() 240; undo() 239");
        Check.script("6 setSymbol", Check.reading("0110") + "setSymbol(1, 0) 1; " + Check.holding("0010") + "setSymbol(1, 0) 0;"
                + "undo() 4; undo() 4; " + Check.holding("0110"));
        Check.script("6 wrong", "setSymbol(0, 5)" + INDEX + "append(1) 1; setSymbol(0, 2)" + ARGUMENT + "setSymbol(0, -1)" + ARGUMENT
                + "setSymbol(1, 0)" + INDEX + "setSymbol(-1, 9)" + INDEX + "undo() 0; undo()" + NOTHING);
        Check.script("7 symbolAt", Check.reading("01") + Check.holding("01") + wrongs("symbolAt(", ")", INDEX, LOWEST, -1, 2, GREATEST));
        Check.script("8 length", "length() 0; append(0) 1; length() 1; setFamily(0, 1, 1) 1; length() 0");
        Check.script("9 clear", Check.reading("011") + "clear() 3; length() 0; clear() 0; undo() 0; undo() 3; " + Check.holding("011"));
        Check.script("10 undo", "undo()" + NOTHING + "append(0) 1; append(1) 2; undo() 1; undo() 0; undo()" + NOTHING);
        Check.script("10 twelve at most", Check.counted("append(1)", 1, 20) + "undo() 19; undo() 18; undo() 17; undo() 16; undo() 15;"
                + "undo() 14; undo() 13; undo() 12; undo() 11; undo() 10; undo() 9; undo() 8; undo()" + NOTHING + "length() 8");
        Check.script("10 after an undo", Check.counted("append(1)", 1, 13) + "undo() 12; undo() 11; append(0) 12; append(0) 13; undo() 12;"
                + "undo() 11; symbolAt(10) 1; undo() 10");
    }

    private static void texts() {
        Check.script("11 feed", "feed('x') 1; feed(65535) 2; feed(0) 3; read() -100; feed('1') 1");
        Check.script("11 full", Check.counted("feed('1')", 1, 240) + "feed('1')" + STATE + "read() 240; feed('1') 1; symbolAt(239) 1");
        Check.script("12 read", Check.reading("0110") + Check.holding("0110") + "read() 0; length() 0; undo() 4; undo() 0; undo()" + NOTHING);
        Check.script("12 errors", "append(1) 1; feed('0') 1; feed('1') 2; feed('2') 3; feed('x') 4; read() -102; " + Check.holding("1")
                + "undo() 0; undo()" + NOTHING + "feed('/') 1; read() -100; feed('0') 1; feed(':') 2; read() -101; read() 0");
        Check.script("12 digits by family", "setFamily(0, 1, 8) 8; feed('7') 1; read() 1; symbolAt(0) 7; feed('8') 1; read() -100;"
                + "setFamily(0, 1, 1) 1; feed('1') 1; read() -100; feed(1632) 1; read() -100");
        Check.script("13 write", "write() 0; append(1) 1; append(0) 2; write() 2; outputAt(0) 1; outputAt(1) 0; clear() 2; outputAt(1) 0;"
                + "append(0) 1; write() 1; outputAt(0) 0; outputAt(1)" + INDEX + "clear() 1; write() 0; outputAt(0)" + INDEX);
        Check.script("14 outputAt", "outputAt(0)" + INDEX + "append(1) 1; outputAt(0)" + INDEX + "write() 1; outputAt(0) 1; "
                + wrongs("outputAt(", ")", INDEX, LOWEST, -1, 1, GREATEST));
    }

    private static void shownElements() {
        Check.script("15 words", Check.reading("0110") + "shownAt(0) 1; shownAt(1) 3; shownAt(2) 2; shownAt(3) 0;"
                + wrongs("shownAt(", ")", INDEX, LOWEST, -1, 4, GREATEST));
        Check.script("15 shorter than a window", "setFamily(0, 5, 2) 32; append(1) 1; shownAt(0) 31; append(0) 2; shownAt(0) 21;"
                + "shownAt(1) 10; setFamily(2, 3, 3) 6; append(0) 1; append(1) 2; shownAt(0) -1");
        Check.script("15 order patterns", "setFamily(1, 3, 6) 6; " + Check.reading("41350") + "shownAt(0) 4; shownAt(1) 0; shownAt(2) 3;"
                + "shownAt(3) 4; shownAt(4) 1; setSymbol(0, 1) 4; shownAt(0) -1");
        Check.script("15 arrangements", "setFamily(2, 2, 3) 6; " + Check.reading("2011") + "shownAt(0) 4; shownAt(1) 0; shownAt(2) -1; shownAt(3) 3");
        Check.script("15 subsets", "setFamily(3, 2, 4) 6; " + Check.reading("3122") + "shownAt(0) 4; shownAt(1) 3; shownAt(2) -1; shownAt(3) 5");
        Check.script("16 occurrences", "occurrences(0) 0; " + Check.reading("00010") + "occurrences(0) 3; occurrences(1) 1; occurrences(2) 1;"
                + "occurrences(3) 0; " + wrongs("occurrences(", ")", INDEX, LOWEST, -1, 4, GREATEST));
        Check.script("17 locate", "locate(0)" + NOTHING + Check.reading("01011") + "locate(1) 0; locate(2) 1; locate(3) 3; locate(0)" + NOTHING
                + wrongs("locate(", ")", INDEX, LOWEST, -1, 4, GREATEST));
        Check.script("18 firstInvalid", "firstInvalid() -1; append(0) 1; firstInvalid() -1; setFamily(2, 2, 3) 6; firstInvalid() -1; append(0) 1;"
                + "firstInvalid() 0; append(1) 2; firstInvalid() -1; append(1) 3; firstInvalid() 1");
        Check.script("19 firstRepeat", "firstRepeat() -1; " + Check.reading("0011") + "firstRepeat() -1; " + Check.reading("0101")
                + "firstRepeat() 2; setFamily(2, 2, 3) 6; " + Check.reading("0011") + "firstRepeat() -1");
        Check.script("20 firstMissing", "firstMissing() 0; append(0) 1; firstMissing() 1; append(1) 2; firstMissing() 0; " + Check.reading("0011")
                + "firstMissing() -1; setSymbol(2, 0) 1; firstMissing() 3");
        Check.script("21 isUniversal", "isUniversal() false; " + Check.reading("0011") + "isUniversal() true; append(1) 5; isUniversal() false;"
                + Check.reading("0101") + "isUniversal() false; " + Check.reading("01") + "isUniversal() false; setFamily(3, 1, 2) 2;"
                + Check.reading("10") + "isUniversal() true; append(1) 3; isUniversal() false");
        Check.script("21 a window that shows none", "setFamily(2, 2, 2) 2; " + Check.reading("01") + "isUniversal() true; " + Check.reading("011")
                + "isUniversal() false");
        Check.script("22 shownBits", "shownBits(0) 0; " + Check.reading("011") + "shownBits(0) 14; shownBits(3) 0; setFamily(0, 2, 8) 64;"
                + Check.reading("7700") + "shownBits(0) 129; shownBits(1) 8256; shownBits(2) 0; "
                + wrongs("shownBits(", ")", ARGUMENT, LOWEST, -1, 4, GREATEST));
        Check.script("22 all parts", "setFamily(1, 5, 8) 120; " + Check.reading("43210") + "shownBits(2) 524288; setFamily(0, 3, 5) 125;"
                + "useCircuit() 5; shownBits(0) 1125899906842623; shownBits(1) 1125899906842623; shownBits(2) 33554431; shownBits(3) 0");
        Check.script("23 longestRun", "longestRun() 0; append(0) 1; longestRun() 1; append(0) 2; longestRun() 1; " + Check.reading("10011")
                + "longestRun() 4; " + Check.reading("0011") + "longestRun() 4; setFamily(2, 2, 3) 6; append(0) 1; longestRun() 0");
        Check.script("24 longestRunStart", "longestRunStart()" + STATE + "append(0) 1; append(0) 2; longestRunStart() 0; " + Check.reading("00011")
                + "longestRunStart() 1; setFamily(2, 2, 3) 6; append(0) 1; longestRunStart() 0; " + Check.reading("00") + "longestRunStart() 0;"
                + Check.reading("0012") + "longestRun() 3; longestRunStart() 1; " + Check.reading("12002") + "longestRun() 4; longestRunStart() 3");
    }

    private static void changes() {
        Check.script("25 distinctSymbols", "distinctSymbols() 0; append(1) 1; distinctSymbols() 1; append(1) 2; distinctSymbols() 1; append(0) 3;"
                + "distinctSymbols() 2");
        Check.script("26 compress", "compress() 0; undo() 0; setFamily(0, 1, 8) 8; " + Check.reading("73773") + "compress() 2; " + Check.holding("10110")
                + "compress() 2; undo() 5; undo() 5; " + Check.holding("73773"));
        Check.script("27 rotate", "rotate(0)" + INDEX + "setFamily(0, 1, 4) 4; " + Check.reading("0123") + "rotate(3) 0; " + Check.holding("3012")
                + "rotate(0) 3; " + Check.holding("3012") + wrongs("rotate(", ")", INDEX, LOWEST, -1, 4, GREATEST)
                + "undo() 4; " + Check.holding("3012") + "undo() 4; " + Check.holding("0123"));
        Check.script("28 rotateToLowest", "rotateToLowest()" + STATE + Check.reading("1010") + "rotateToLowest() 1; " + Check.holding("0101")
                + "rotateToLowest() 0; undo() 4; undo() 4; " + Check.holding("1010") + Check.reading("0100") + "rotateToLowest() 2; "
                + Check.holding("0001"));
        Check.script("29 reverse", "reverse() 0; undo() 0; " + Check.reading("001") + "reverse() 3; " + Check.holding("100") + "undo() 3; "
                + Check.holding("001") + Check.reading("0011") + "reverse() 4; " + Check.holding("1100"));
        Check.script("30 complement", "complement() 0; undo() 0; setFamily(0, 1, 5) 5; " + Check.reading("0134") + "complement() 4; "
                + Check.holding("4310") + "undo() 4; " + Check.holding("0134"));
        Check.script("31 exchange", "exchange(0, 1) 0; undo() 0; setFamily(0, 1, 4) 4; " + Check.reading("01230") + "exchange(0, 3) 3; "
                + Check.holding("31203") + "exchange(2, 2) 1; " + Check.holding("31203") + "undo() 5; undo() 5; " + Check.holding("01230"));
        Check.script("31 wrong", "append(0) 1; " + wrongs("exchange(0, ", ")", ARGUMENT, LOWEST, -1, 2, GREATEST)
                + wrongs("exchange(", ", 0)", ARGUMENT, LOWEST, -1, 2, GREATEST) + "undo() 0; undo()" + NOTHING);
        Check.script("32 words", "extendGreedily() 5; " + Check.holding("01100") + "extendGreedily() 0; undo() 5; undo() 0; undo()" + NOTHING);
        Check.script("32 n = 1", "setFamily(0, 1, 3) 3; extendGreedily() 3; " + Check.holding("210"));
        Check.script("32 fewer than n symbols", "setFamily(0, 3, 2) 8; append(1) 1; extendGreedily() 8; " + Check.holding("101110010"));
        Check.script("32 no symbol", "setFamily(2, 2, 2) 2; " + Check.reading("01") + "extendGreedily() 1; " + Check.holding("010"));
        Check.script("32 zeros that no window can show", "setFamily(1, 3, 3) 6; extendGreedily() 2; " + Check.holding("00"));
        Check.script("32 not a cycle", "setFamily(2, 2, 3) 6; " + Check.reading("20") + "extendGreedily() 3; " + Check.holding("20212"));
        Check.script("32 full", Check.reading("0".repeat(239)) + "extendGreedily() 1; symbolAt(239) 1; extendGreedily() 0; length() 240");
    }

    private static void searches() {
        Check.script("33 found", "search(6) 6; " + Check.holding("0011") + "undo() 0; search(5)" + STATE + "length() 0; undo()" + NOTHING);
        Check.script("33 in place of a sequence", "append(1) 1; search(30000) 6; search(30000) 6; undo() 4; undo() 1; " + Check.holding("1"));
        Check.script("33 all trials were made", "setFamily(3, 2, 2) 1; search(1)" + STATE + "search(2)" + NOTHING + "search(3)" + NOTHING);
        Check.script("33 a failed search changes nothing", "setFamily(3, 2, 4) 6; " + Check.reading("0123") + "search(30000)" + NOTHING + "search(3)"
                + STATE + Check.holding("0123") + "undo() 0; undo()" + NOTHING);
        Check.script("33 wrong", wrongs("search(", ")", ARGUMENT, LOWEST, -1, 0, 30001, GREATEST));
        Check.script("33 one symbol", "setFamily(0, 5, 1) 1; search(1) 1; " + Check.holding("0") + "isUniversal() true");
        Check.script("33 others", "setFamily(1, 4, 6) 24; search(906)" + STATE + "search(907) 907; isUniversal() true; setFamily(2, 2, 3) 6;"
                + "search(15) 15; " + Check.holding("010212") + "setFamily(3, 2, 5) 10; search(35) 35; isUniversal() true");
    }

    private static void graphs() {
        Check.script("34 vertexCount", "vertexCount() 2; setFamily(0, 1, 5) 5; vertexCount() 1; setFamily(0, 5, 2) 32; vertexCount() 16;"
                + "setFamily(1, 5, 6) 120; vertexCount() 24; setFamily(1, 1, 3) 1; vertexCount() 1; setFamily(2, 5, 5) 120; vertexCount() 120;"
                + "setFamily(2, 1, 4) 4; vertexCount() 1; setFamily(3, 1, 4) 4; vertexCount()" + UNSUPPORTED);
        Check.script("35 words", "edgeEnd(1, false) 0; edgeEnd(1, true) 1; setFamily(0, 1, 3) 3; edgeEnd(2, false) 0; edgeEnd(2, true) 0;"
                + wrongs("edgeEnd(", ", true)", INDEX, LOWEST, -1, 3, GREATEST));
        Check.script("35 others", "setFamily(1, 3, 4) 6; edgeEnd(1, false) 0; edgeEnd(1, true) 1; edgeEnd(4, false) 1; edgeEnd(4, true) 0;"
                + "setFamily(2, 3, 3) 6; edgeEnd(0, false) 0; edgeEnd(0, true) 3; edgeEnd(5, false) 5; edgeEnd(5, true) 2;"
                + "setFamily(3, 2, 4) 6; edgeEnd(0, false)" + UNSUPPORTED + "edgeEnd(-1, true)" + UNSUPPORTED);
        Check.script("36 inDegree", "inDegree(0) 2; setFamily(0, 1, 5) 5; inDegree(0) 5; setFamily(2, 3, 4) 24; inDegree(11) 2; setFamily(1, 4, 4) 24;"
                + "inDegree(5) 4; " + wrongs("inDegree(", ")", INDEX, LOWEST, -1, 6, GREATEST) + "setFamily(3, 2, 4) 6; inDegree(0)" + UNSUPPORTED
                + "inDegree(-1)" + UNSUPPORTED);
        Check.script("37 distance", "setFamily(0, 4, 2) 16; distance(0, 7) 3; distance(7, 0) 3; distance(5, 2) 1; distance(5, 5) 0; distance(0, 0) 0;"
                + wrongs("distance(0, ", ")", INDEX, LOWEST, -1, 8, GREATEST) + wrongs("distance(", ", 0)", INDEX, LOWEST, -1, 8, GREATEST)
                + "setFamily(2, 3, 3) 6; distance(0, 3) 1; distance(0, 4) 2; distance(0, 5)" + NOTHING + "distance(2, 2) 0; setFamily(3, 2, 4) 6;"
                + "distance(0, 0)" + UNSUPPORTED + "distance(-1, 0)" + UNSUPPORTED);
        Check.script("38 componentOf", "componentOf(1) 0; setFamily(2, 3, 3) 6; componentOf(0) 0; componentOf(1) 1; componentOf(2) 1; componentOf(3) 0;"
                + "componentOf(4) 0; componentOf(5) 1; " + wrongs("componentOf(", ")", INDEX, LOWEST, -1, 6, GREATEST)
                + "setFamily(3, 2, 4) 6; componentOf(0)" + UNSUPPORTED + "componentOf(-1)" + UNSUPPORTED);
        Check.script("39 circuitCount", "circuitCount() 1; setFamily(0, 4, 2) 16; circuitCount() 16; setFamily(0, 1, 8) 8; circuitCount() 5040;"
                + "setFamily(0, 2, 6) 36; circuitCount() 3869835264000000; setFamily(2, 2, 7) 42; circuitCount() 6022251970560000000;"
                + "setFamily(1, 3, 3) 6; circuitCount() 8; setFamily(2, 2, 3) 6; circuitCount() 3; setFamily(0, 2, 3) 9; circuitCount() 24;"
                + "setFamily(1, 2, 2) 2; circuitCount() 1; setFamily(1, 1, 1) 1; circuitCount() 1");
        Check.script("39 throws", "setFamily(3, 2, 4) 6; circuitCount()" + UNSUPPORTED + "setFamily(0, 5, 2) 32; circuitCount()" + UNSUPPORTED
                + "setFamily(0, 3, 3) 27; circuitCount()" + UNSUPPORTED + "setFamily(2, 4, 4) 24; circuitCount()" + UNSUPPORTED
                + "setFamily(2, 3, 3) 6; circuitCount()" + NOTHING + "setFamily(0, 2, 7) 49; circuitCount() throws ArithmeticException;"
                + "setFamily(0, 2, 8) 64; circuitCount() throws ArithmeticException; setFamily(2, 2, 8) 56; circuitCount() throws ArithmeticException");
        Check.script("40 circuitEdge", "circuitEdge(0) 0; circuitEdge(1) 1; circuitEdge(2) 3; circuitEdge(3) 2; "
                + wrongs("circuitEdge(", ")", INDEX, LOWEST, -1, 4, GREATEST) + "setFamily(1, 3, 3) 6; circuitEdge(0) 0; circuitEdge(1) 1;"
                + "circuitEdge(2) 2; circuitEdge(3) 3; circuitEdge(4) 5; circuitEdge(5) 4; setFamily(2, 3, 3) 6; circuitEdge(0)" + NOTHING
                + "circuitEdge(-1)" + NOTHING + "setFamily(3, 2, 4) 6; circuitEdge(0)" + UNSUPPORTED + "circuitEdge(-1)" + UNSUPPORTED);
        Check.script("41 words and arrangements", "useCircuit() 2; " + Check.holding("0011") + "undo() 0; setFamily(2, 1, 3) 3; useCircuit() 3; "
                + Check.holding("012") + "setFamily(2, 2, 3) 6; useCircuit() 3; isUniversal() true; setFamily(2, 3, 6) 120; useCircuit() 6;"
                + "isUniversal() true; length() 120; setFamily(0, 5, 1) 1; useCircuit() 1; " + Check.holding("0"));
        Check.script("41 order patterns", "setFamily(1, 2, 2) 2; useCircuit() 2; " + Check.holding("01") + "setFamily(1, 1, 4) 1; useCircuit() 1; "
                + Check.holding("0") + "setFamily(1, 3, 6) 6; useCircuit() 6; isUniversal() true; shownAt(4) 5; shownAt(5) 4");
        Check.script("41 throws", "setFamily(1, 3, 5) 6; append(1) 1; useCircuit()" + NOTHING + Check.holding("1") + "undo() 0; undo()" + NOTHING
                + "setFamily(1, 5, 8) 120; useCircuit()" + NOTHING + "setFamily(2, 4, 4) 24; useCircuit()" + NOTHING + "setFamily(3, 2, 4) 6; useCircuit()"
                + UNSUPPORTED);
    }

    private static void savings() {
        Check.script("42 save", "save() 0; append(1) 1; save() 1; clear() 1; restore() 1; " + Check.holding("1"));
        Check.script("42 in place of the one before", "append(1) 1; save() 1; setFamily(3, 2, 4) 6; append(3) 1; append(2) 2; save() 2; setFamily(0, 1, 1) 1;"
                + "restore() 2; elementCount() 6; " + Check.holding("32") + "vertexCount()" + UNSUPPORTED);
        Check.script("42 a copy", "append(1) 1; save() 1; setSymbol(0, 0) 1; restore() 1; symbolAt(0) 1; setSymbol(0, 0) 1; restore() 1; symbolAt(0) 1");
        Check.script("42 no history of its own", "append(1) 1; save() 1; undo() 0; undo()" + NOTHING);
        Check.script("43 restore", "restore()" + STATE + "append(1) 1; save() 1; append(0) 2; feed('1') 1; write() 2; restore() 1; undo()" + NOTHING
                + "outputAt(1) 0; feed('0') 2; setFamily(2, 3, 3) 6; restore() 1; elementCount() 4; vertexCount() 2; circuitEdge(2) 3; restore() 1;"
                + "read() 2; " + Check.holding("10"));
    }

    /** No array may be passed where the sequence has all its 240 symbols. */
    private static void fullSequence() {
        String text = "0011".repeat(60);
        Check.script("a full sequence", Check.reading(text) + "write() 240; outputAt(239) 1; outputAt(240)" + INDEX + "shownAt(239) 2; occurrences(2) 60;"
                + "locate(2) 3; firstInvalid() -1; firstRepeat() 4; firstMissing() -1; isUniversal() false; shownBits(0) 15; longestRun() 4;"
                + "longestRunStart() 0; distinctSymbols() 2; compress() 2; rotate(239) 0; symbolAt(0) 1; symbolAt(239) 1; rotateToLowest() 1; reverse() 240;"
                + "symbolAt(0) 1; symbolAt(239) 0; complement() 240; exchange(0, 1) 240; extendGreedily() 0; save() 240; restore() 240; clear() 240; undo() 240;"
                + "search(6) 6; undo() 240; useCircuit() 2; undo() 240; setSymbol(239, 0) 0; read() 0");
        Check.script("a full sequence of one run", "setFamily(0, 5, 3) throws IllegalArgumentException; setFamily(1, 5, 8) 120; "
                + Check.reading("01234567".repeat(30)) + "firstInvalid() -1; longestRun() 5; longestRunStart() 3; extendGreedily() 0; rotateToLowest() 0; length() 240");
    }

    /** Rows that are used again hold nothing of the call before. */
    private static void usedAgain() {
        Check.script("search after a search that failed", "setFamily(3, 2, 2) 1; search(9)" + NOTHING + "setFamily(0, 2, 2) 4; search(6) 6; "
                + Check.holding("0011") + "search(5)" + STATE + "search(6) 6");
        Check.script("extendGreedily again", "extendGreedily() 5; clear() 5; extendGreedily() 5; setFamily(0, 1, 3) 3; extendGreedily() 3; clear() 3;"
                + "extendGreedily() 3");
        Check.script("useCircuit after one that failed", "setFamily(1, 3, 3) 6; useCircuit()" + NOTHING + "setFamily(1, 3, 6) 6; useCircuit() 6; isUniversal() true;"
                + "setFamily(1, 1, 1) 1; useCircuit() 1; " + Check.holding("0"));
        Check.script("walks after other walks", "setFamily(2, 3, 3) 6; distance(0, 3) 1; componentOf(1) 1; componentOf(3) 0; componentOf(5) 1; componentOf(4) 0;"
                + "distance(5, 1) 2; distance(1, 5) 1");
        Check.script("a graph after subsets", "setFamily(2, 3, 3) 6; setFamily(3, 2, 8) 28; shownBits(0) 0; append(7) 1; append(0) 2; shownAt(0) 6; setFamily(0, 3, 2) 8;"
                + "componentOf(3) 0; circuitEdge(7) 4; circuitCount() 2; setFamily(0, 2, 3) 9; circuitCount() 24; setFamily(0, 3, 2) 8; circuitCount() 2");
    }

    public static void main(String[] args) {
        families();
        symbols();
        texts();
        shownElements();
        changes();
        searches();
        graphs();
        savings();
        fullSequence();
        usedAgain();
        Check.end("PromiseTest");
    }
}
