/** The buffer: promises 1 to 4, and what the document says under "Input text". */
public final class BufferTest {
    private static final int[] NO_LETTERS = {0, 9, -1, 10, 100, Integer.MIN_VALUE, Integer.MAX_VALUE};

    public static void main(String[] args) {
        Check.run(BufferTest.class);
    }

    // ---- 1 a new object

    @Says(promise = 1, value = "Creates a table without words")
    static void aNewObjectHasNoWords() {
        Words x = new Words();
        int[] counts = {0, 1, 1, 0, 0, 0, 0, 0, 0, 0};
        for (int what = 0; what < counts.length; what++) {
            Check.due("count(" + what + ")", x.count(what), counts[what]);
        }
        Check.due("the root's kind", x.cell(0, 0), 1);
        for (int cell = 1; cell < 160; cell++) {
            Check.due("the kind of cell " + cell, x.cell(cell, 0), 0);
        }
        for (int place = 0; place < 40; place++) {
            Check.due("the uses of place " + place, x.end(place, 0), 0);
        }
    }

    @Says(promise = 1, value = "with an empty buffer")
    static void aNewObjectHasAnEmptyBuffer() {
        Check.due("count(8)", new Words().count(8), 0);
        Check.due("clearBuffer()", new Words().clearBuffer(), 0);
        Check.due("ifAdded(0)", new Words().ifAdded(0), 3);
    }

    @Says(promise = 1, value = "Creates a table")
    static void eachNewObjectHasATableOfItsOwn() {
        Words one = new Words();
        Words other = new Words();
        one.add("abc");
        Check.due("the other's words", other.count(0), 0);
        Check.due("the other's buffer", other.count(8), 0);
        Check.due("the other's saved states", other.count(9), 0);
        Check.due("the other's digest", other.digest(), new Words().digest());
    }

    @Says("The constants: `NONE = -1`: There is nothing to return.")
    static void noneIsMinusOne() {
        Check.due("NONE", PackedWords.NONE, -1);
    }

    // ---- 2 append

    @Says("Ahead of the calls `append`, `clearBuffer`, `drop` the interface says: ---- the buffer.")
    static void theBuffersCallsChangeNothingElse() {
        Words x = Tables.four();
        x.append(1);
        x.append(2);
        x.drop();
        x.drop();
        x.append(3);
        x.clearBuffer();
        Check.due("digest()", x.digest(), Tables.four().digest());
    }

    @Says(promise = 2, value = "Appends a letter to the buffer.")
    static void appendPutsTheLetterBehindTheOthers() {
        Words x = new Words();
        x.append(3);
        x.append(1);
        x.append(2);
        x.add();
        Check.dueText("the word", x.wordAt(0), "cab");
    }

    @Says(promise = 2, value = "`letter`: 1 to 8")
    static void appendTakes1To8() {
        Words x = new Words();
        for (int letter = 1; letter <= 8; letter++) {
            Check.due("append(" + letter + ")", x.append(letter), letter);
        }
        x.add();
        Check.dueText("the word", x.wordAt(0), "abcdefgh");
    }

    @Says(promise = 2, value = "Returns the new length of the buffer.")
    static void appendReturnsTheNewLength() {
        Words x = new Words();
        for (int length = 1; length <= 12; length++) {
            Check.due("append(1)", x.append(1), length);
            Check.due("count(8)", x.count(8), length);
        }
        x.drop();
        x.drop();
        Check.due("append(1) behind ten", x.append(1), 11);
    }

    @Says(promise = 2, value = "Throws `IllegalArgumentException` if letter is out of range")
    static void appendThrowsFor0And9AndBeyond() {
        for (int letter : NO_LETTERS) {
            Words empty = new Words();
            Check.dueThrowUnchanged("append(" + letter + ") to an empty buffer", empty, () -> empty.append(letter),
                    IllegalArgumentException.class);
            Words eleven = new Words();
            eleven.type("abcdefghabc");
            Check.dueThrowUnchanged("append(" + letter + ") to eleven", eleven, () -> eleven.append(letter),
                    IllegalArgumentException.class);
        }
    }

    @Says(promise = 2, value = "Throws `IllegalStateException` if the buffer has 12 letters")
    static void appendThrowsBehindTwelveLetters() {
        Words x = new Words();
        x.type("abcdefghhgf");
        Check.due("the twelfth letter", x.append(5), 12);
        for (int letter = 1; letter <= 8; letter++) {
            int thirteenth = letter;
            Check.dueThrowUnchanged("append(" + letter + "), the thirteenth", x, () -> x.append(thirteenth),
                    IllegalStateException.class);
        }
        x.add();
        Check.dueText("the twelve stay", x.wordAt(0), "abcdefghhgfe");
    }

    @Says("The buffer has at most 12 characters")
    static void theBufferHasAtMostTwelve() {
        Words x = new Words();
        x.type("aaaaaaaaaaaa");
        Check.dueThrow("append(1)", () -> x.append(1), IllegalStateException.class);
        Check.due("count(8)", x.count(8), 12);
        x.drop();
        Check.due("append(1) once more", x.append(1), 12);
    }

    @Says(", and tells a word, if it is not empty.")
    static void aBufferOfOneLetterTellsAWord() {
        Words x = new Words();
        x.append(1);
        Check.due("ifAdded(0)", x.ifAdded(0), 0);
        Check.due("add()", x.add(), 2);
        Check.due("find()", x.find(), 2);
    }

    @Says(", and tells a word, if it is not empty.")
    static void anEmptyBufferTellsNoWord() {
        Words x = Tables.four();
        Check.due("ifAdded(0)", x.ifAdded(0), 3);
        Check.due("find()", x.find(), -1);
        Check.due("longest()", x.longest(), -1);
        Check.dueThrow("add()", () -> x.add(), IllegalArgumentException.class);
        Check.dueThrow("remove()", () -> x.remove(), IllegalArgumentException.class);
    }

    // ---- 3 clearBuffer

    @Says(promise = 3, value = "Clears the buffer.")
    static void clearBufferLeavesNoLetter() {
        Words x = new Words();
        x.type("hhhhhh");
        x.clearBuffer();
        Check.due("count(8)", x.count(8), 0);
        Check.due("digest()", x.digest(), new Words().digest());
        Check.due("append(2)", x.append(2), 1);
        x.add();
        Check.dueText("the word", x.wordAt(0), "b");
    }

    @Says(promise = 3, value = "Returns the length that it had.")
    static void clearBufferReturnsTheLengthThatItHad() {
        Words x = new Words();
        Check.due("clearBuffer() of none", x.clearBuffer(), 0);
        x.type("h");
        Check.due("clearBuffer() of one", x.clearBuffer(), 1);
        Check.due("clearBuffer() again", x.clearBuffer(), 0);
        x.type("abcdefghabcd");
        Check.due("clearBuffer() of twelve", x.clearBuffer(), 12);
    }

    // ---- 4 drop

    @Says(promise = 4, value = "Drops the last letter of the buffer.")
    static void dropTakesTheLastLetterAlone() {
        Words x = new Words();
        x.type("abc");
        x.drop();
        Check.due("count(8)", x.count(8), 2);
        x.append(8);
        x.add();
        Check.dueText("another letter in its place", x.wordAt(0), "abh");
    }

    @Says(promise = 4, value = "Returns the letter.")
    static void dropReturnsTheLetter() {
        Words x = new Words();
        x.type("abcdefghabcd");
        for (int at = 11; at >= 0; at--) {
            Check.due("drop() of letter " + at, x.drop(), at % 8 + 1);
        }
    }

    @Says(promise = 4, value = "Throws `IllegalStateException` if the buffer is empty")
    static void dropThrowsIfTheBufferIsEmpty() {
        Words x = new Words();
        Check.dueThrowUnchanged("drop() from a new one", x, () -> x.drop(), IllegalStateException.class);
        x.append(8);
        Check.due("drop() of the only letter", x.drop(), 8);
        Check.dueThrowUnchanged("drop() behind the last", x, () -> x.drop(), IllegalStateException.class);
        x.type("ab");
        x.clearBuffer();
        Check.dueThrowUnchanged("drop() from a cleared one", x, () -> x.drop(), IllegalStateException.class);
    }
}
