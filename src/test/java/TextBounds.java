/** Promises 11 to 14: feed, read, write, outputAt. */
final class TextBounds extends Bounds {
    private static final String FED = counted("feed('1')", 1, 239);

    @Sentence({"Appends a character to the input buffer.", "The input buffer holds at most 240 characters.",
        "Throws `IllegalStateException` if the buffer already holds 240 characters"})
    static void promise11BufferHolds240Characters() {
        holds(FED, "feed('0') 240; read() 240; symbolAt(238) 1; symbolAt(239) 0; ");
        refused(STATE, FED + "feed('0') 240; ", each("feed(#)", '0', 'x', 0));
        holds(FED, "feed('0') 240; ", throwing("feed('1')", STATE), "read() 240; symbolAt(239) 0; ", throwing("symbolAt(240)", INDEX),
                "feed('1') 1; ");
    }

    @Sentence("Throws `IllegalStateException` if the buffer already holds 240 characters")
    static void promise11BufferTakesMoreAfterItWasRead() {
        holds(FED, "feed('x') 240; ", throwing("feed('1')", STATE), "read() -339; ", counted("feed('1')", 1, 3), "read() 3; ");
    }

    @Sentence("`letter`: any character")
    static void promise11AnyCharacter() {
        holds("feed(0) 1; feed(65535) 2; feed(10) 3; feed(47) 4; feed(58) 5; feed(255) 6; feed(256) 7; read() -100; ");
        holds("feed('1') 1; feed(65535) 2; read() -101; ");
    }

    @Sentence("Returns the number of characters in the buffer.")
    static void promise11ReturnsTheNumberOfCharacters() {
        holds("feed('0') 1; feed('1') 2; append(1) 1; clear() 1; undo() 1; feed('1') 3; write() 1; feed('1') 4; read() 4; feed('1') 1; ");
    }

    @Sentence("Replaces the sequence by the one whose text is in the input buffer.")
    static void promise12LongestText() {
        holds(FED, "feed('0') 240; read() 240; length() 240; symbolAt(0) 1; symbolAt(239) 0; ");
        holds("append(1) 1; append(1) 2; ", reading("0"), holding("0"), "undo() 2; ", holding("11"));
    }

    @Sentence("The buffer is empty afterwards, even after an error.")
    static void promise12BufferIsEmptyAfterwards() {
        holds(reading("01"), "read() 0; length() 0; ");
        holds(reading("01"), "feed('1') 1; read() 1; ", holding("1"));
    }

    @Sentence("The buffer is empty afterwards, even after an error.")
    static void promise12BufferIsEmptyAfterAnError() {
        holds("feed('1') 1; feed('x') 2; feed('1') 3; read() -101; read() 0; length() 0; ");
        holds("feed('1') 1; feed('x') 2; feed('1') 3; read() -101; feed('0') 1; read() 1; ", holding("0"));
    }

    @Sentence("An empty buffer gives the empty sequence.")
    static void promise12EmptyBuffer() {
        holds("read() 0; length() 0; undo() 0; ", throwing("undo()", NOTHING));
        holds("append(1) 1; read() 0; length() 0; ", throwing("symbolAt(0)", INDEX), "undo() 1; ", holding("1"));
    }

    private static final String ANSWER = "Returns the length of the sequence; -100 minus the place, from 0, of the first character that is "
            + "no digit for one of the symbols 0 to k - 1, if there is one.";

    @Sentence({ANSWER, "A sequence is written as a text of digits, one for each symbol."})
    static void promise12DigitsOfTheSymbols() {
        holds("feed('0') 1; feed('1') 2; read() 2; ", holding("01"), "feed('2') 1; read() -100; feed('/') 1; read() -100; ");
        holds("setFamily(0, 1, 1) 1; feed('0') 1; read() 1; feed('1') 1; read() -100; ");
        holds("setFamily(0, 1, 8) 8; ", reading("01234567"), holding("01234567"), "feed('8') 1; read() -100; feed('9') 1; read() -100; "
                + "feed(58) 1; read() -100; ");
        holds("setFamily(1, 2, 5) 2; feed('4') 1; read() 1; feed('5') 1; read() -100; ");
    }

    @Sentence(ANSWER)
    static void promise12CharactersThatAreNoDigits() {
        for (int letter : new int[] {0, 1, '0' + 128, '0' + 256, 1632, 65296, 65535, ' ', '-', '+', 'a'}) {
            holds("feed(" + letter + ") 1; read() -100; ", throwing("undo()", NOTHING));
        }
    }

    @Sentence(ANSWER)
    static void promise12PlaceOfTheFirstWrongCharacter() {
        holds("feed('x') 1; feed('y') 2; read() -100; ");
        holds("feed('0') 1; feed('2') 2; feed('x') 3; read() -101; ");
        holds(FED, "feed('2') 240; read() -339; length() 0; ");
        holds(counted("feed('1')", 1, 238), "feed('2') 239; feed('1') 240; read() -338; ");
    }

    @Sentence(ANSWER)
    static void promise12ErrorLeavesTheSequence() {
        holds(reading("10"), "append(1) 3; feed('0') 1; feed('2') 2; read() -101; ", holding("101"), "undo() 2; ", holding("10"));
    }

    @Sentence({"Writes the sequence to the output buffer, in place of its content.", "Returns the number of characters."})
    static void promise13EmptySequence() {
        holds("write() 0; ", throwing("outputAt(0)", INDEX));
        holds("append(1) 1; write() 1; clear() 1; outputAt(0) 1; write() 0; ", throwing("outputAt(0)", INDEX));
    }

    @Sentence({"Writes the sequence to the output buffer, in place of its content.",
        "A sequence is written as a text of digits, one for each symbol."})
    static void promise13InPlaceOfTheContent() {
        holds(reading("101"), "write() 3; ", reading("01"), "outputAt(0) 1; outputAt(2) 1; write() 2; outputAt(0) 0; outputAt(1) 1; ",
                throwing("outputAt(2)", INDEX));
        holds("setFamily(0, 1, 8) 8; ", reading("70"), "write() 2; outputAt(0) 7; outputAt(1) 0; ");
    }

    @Sentence("Returns the number of characters.")
    static void promise13FullSequence() {
        holds(reading("1".repeat(239) + "0"), "write() 240; outputAt(0) 1; outputAt(238) 1; outputAt(239) 0; ",
                throwing("outputAt(240)", INDEX));
    }

    @Sentence("Returns a character of the output buffer, which is empty at first.")
    static void promise14EmptyAtFirst() {
        refused(INDEX, "", each("outputAt(#)", -1, 0));
        refused(INDEX, "append(1) 1; feed('1') 1; ", "outputAt(0)");
    }

    @Sentence({"`i`: the place, from 0", "Returns the character.", "Throws `IndexOutOfBoundsException` if there is no such place"})
    static void promise14NoSuchPlace() {
        holds(reading("01"), "write() 2; outputAt(0) 0; outputAt(1) 1; ");
        refused(INDEX, LIVED, each("outputAt(#)", LOWEST, -1, 2, GREATEST));
        refused(INDEX, reading("01") + "write() 2; append(1) 3; ", "outputAt(2)");
        refused(INDEX, reading("01") + "write() 2; clear() 2; write() 0; ", "outputAt(0)");
        refused(INDEX, reading("01".repeat(120)) + "write() 240; ", "outputAt(240)");
    }
}
