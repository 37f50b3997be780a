/** Cells: what the document says of them under "Words, cells", and promise 10. */
public final class CellsTest {
    private static final int[] NO_CELLS = {-1, 160, -2, 161, 1000, Integer.MIN_VALUE, Integer.MAX_VALUE};
    private static final int[] NO_WHATS = {-1, 7, -2, 8, 1000, Integer.MIN_VALUE, Integer.MAX_VALUE};

    public static void main(String[] args) {
        Check.run(CellsTest.class);
    }

    // ---- words

    @Says("A word has 1 to 12 letters")
    static void aWordOfOneLetter() {
        Words x = Tables.of("h");
        x.dueWords("h", "h");
        Check.due("find()", x.find(), 9);
    }

    @Says("A word has 1 to 12 letters")
    static void aWordOfTwelveLetters() {
        Words x = Tables.of("abcdefghabcd", "abcdefghabcc");
        x.dueWords("two words of twelve", "abcdefghabcc", "abcdefghabcd");
        Check.due("inner cells", x.count(2), 12);
    }

    @Says(", \"a\" to \"h\"; these are told as 1 to 8.")
    static void lettersAreToldAs1To8() {
        Words x = Tables.of("abcdefgh", "hgfedcba");
        for (int at = 0; at < 8; at++) {
            Check.due("word(0, " + at + ")", x.word(0, at), at + 1);
            Check.due("word(1, " + at + ")", x.word(1, at), 8 - at);
        }
        Check.due("the letter of abcdefgh's leaf", x.cell(2, 2), 1);
        Check.due("the letter of hgfedcba's leaf", x.cell(9, 2), 8);
        Check.due("the end's last letter", x.letter(0, 6), 8);
        Check.due("the other end's last letter", x.letter(1, 6), 1);
    }

    @Says("0 is told for the end of a word.")
    static void zeroIsToldForTheEndOfAWord() {
        Words x = Tables.of("ab", "a");
        Check.due("word(0, 1)", x.word(0, 1), 0);
        Check.due("word(1, 2)", x.word(1, 2), 0);
        Check.due("the letter by which a's leaf is a child", x.cell(x.find("a"), 2), 0);
    }

    @Says("So a word is told by the letters on the way from the root to its leaf (but for a 0), and the end of the leaf.")
    static void theWayAndTheEndTellTheWord() {
        String[] all = {"a", "abcd", "gbcd", "h", "ab", "abc", "gbcdefghabcd", "gb", "hh"};
        for (String word : all) {
            Words x = Tables.of(all);
            int leaf = x.find(word);
            StringBuilder text = new StringBuilder();
            for (int cell = leaf; cell != 0; cell = x.cell(cell, 1)) {
                text.append(x.cell(cell, 2) == 0 ? "" : (char) ('a' + x.cell(cell, 2) - 1));
            }
            text.reverse();
            int place = x.cell(leaf, 4);
            for (int at = 0; at < x.end(place, 1); at++) {
                text.append((char) ('a' + x.letter(place, at) - 1));
            }
            Check.dueText("the way to the leaf of " + word + ", and its end", text.toString(), word);
        }
    }

    // ---- cells

    @Says("The table has 160 cells, numbered from 0.")
    static void theCellsAre0To159() {
        Words x = Tables.full();
        Check.due("the kind of cell 0", x.cell(0, 0), 1);
        Check.due("the kind of cell 159", x.cell(159, 0), 2);
        Check.dueThrow("cell(160, 0)", () -> x.cell(160, 0), IndexOutOfBoundsException.class);
        Check.dueThrow("cell(-1, 0)", () -> x.cell(-1, 0), IndexOutOfBoundsException.class);
    }

    @Says("A cell is free, inner, or a leaf.")
    static void aCellIsFreeInnerOrALeaf() {
        Words x = Tables.four();
        int[] of = new int[3];
        for (int cell = 0; cell < 160; cell++) {
            of[x.cell(cell, 0)]++;
        }
        Check.due("free cells", of[0], 154);
        Check.due("inner cells", of[1], 2);
        Check.due("leaves", of[2], 4);
    }

    @Says("Cell 0 is the root: it is always inner.")
    static void theRootIsAlwaysInner() {
        Words x = new Words();
        Check.due("new", x.cell(0, 0), 1);
        x.add("a");
        Check.due("with a word", x.cell(0, 0), 1);
        x.remove();
        Check.due("without its last word", x.cell(0, 0), 1);
        x.pack();
        Check.due("packed without words", x.cell(0, 0), 1);
        x.with("a", "ab", "h").clearBuffer();
        x.removeAll();
        Check.due("with all words removed", x.cell(0, 0), 1);
        x.undo();
        x.pack();
        Check.due("packed", x.cell(0, 0), 1);
        Check.due("when the table is full", Tables.full().cell(0, 0), 1);
    }

    @Says("An inner cell has an offset, 1 or more, if it has children, otherwise 0;")
    static void anInnerCellsOffsetIs1OrMore() {
        // with offset 0 the children would come to cells 8, 1 and 4
        Check.due("the offset of the root with h", Tables.of("h").cell(0, 3), 1);
        Check.due("the offset of the root with a", Tables.of("a").cell(0, 3), 1);
        Words x = Tables.of("h", "hd");
        Check.due("the offset of h's cell with 0 and d", x.cell(9, 3), 1);
    }

    @Says("An inner cell has an offset, 1 or more, if it has children, otherwise 0;")
    static void theRootWithoutChildrenHasTheOffset0() {
        Words x = new Words();
        Check.due("new", x.cell(0, 3), 0);
        x.add("h");
        x.remove();
        Check.due("without its last word", x.cell(0, 3), 0);
        // the first offset of all fits again, and none is kept from before
        x = Tables.of("a", "aa", "b", "-a", "-aa");
        Check.due("the offset of the root when it has moved its children", x.cell(0, 3), 4);
        x.remove("b");
        Check.due("without its last word then", x.cell(0, 3), 0);
        Check.due("a new word's leaf", x.add("b"), 3);
    }

    @Says("its child by a letter c (0 to 8) is the cell offset plus c")
    static void childrenStandAtOffsetPlusLetter() {
        Words x = Tables.of("b", "bh", "ba", "bd");
        int inner = x.cell(x.find("b"), 1);
        int offset = x.cell(inner, 3);
        Check.due("the child by 0", x.find("b"), offset);
        Check.due("the child by a", x.find("ba"), offset + 1);
        Check.due("the child by d", x.find("bd"), offset + 4);
        Check.due("the child by h", x.find("bh"), offset + 8);
    }

    @Says("if that has this cell as its parent.")
    static void aCellOfAnotherParentIsNoChild() {
        Words x = Tables.of("a", "aa");
        // the root's offset is 1, and 3 and 4 are children of a's cell: by 0 and a
        x.dueCell("a's own", 3, 2, 2, 0);
        Check.due("find b", x.find("b"), -1);
        Check.due("find c", x.find("c"), -1);
        Check.due("the words that begin with b", x.beginning(), 0);
        Check.due("the root's children", x.cell(0, 5), 1);
        Check.due("ahead of c", x.ahead(), 2);
    }

    // ---- 10 cell

    @Says(promise = 10, value = {"Returns a property of a cell.", "Returns the property."})
    static void cellReturnsEachProperty() {
        Words x = Tables.four();
        x.dueCell("the root", 0, 1, -1, -1, 1, -1, 3, 4);
        x.dueCell("a, by 0", 1, 2, 2, 0, 0, 1, 0, 1);
        x.dueCell("a.., inner", 2, 1, 0, 1, 1, -1, 2, 2);
        x.dueCell("abcd", 3, 2, 2, 2, 0, 0, 0, 1);
        x.dueCell("gbcd", 8, 2, 0, 7, 0, 2, 0, 1);
        x.dueCell("h", 9, 2, 0, 8, 0, 1, 0, 1);
        x.dueCell("a free one", 4, 0, -1, -1, 0, -1, 0, 0);
        x.dueCell("the last one", 159, 0, -1, -1, 0, -1, 0, 0);
    }

    @Says(promise = 10, value = "`cell`: 0 to 159")
    static void cellTakes0And159() {
        Words x = Tables.full();
        x.dueCell("the first cell", 0, 1, -1, -1, 1, -1, 7, 26);
        x.dueCell("the last cell", 159, 2, 157, 2, 0);
    }

    @Says(promise = 10, value = "`what`: 0: 0 if it is free, 1 if it is inner, 2 if it is a leaf")
    static void what0TellsTheKind() {
        Words x = Tables.four();
        Check.due("a free one", x.cell(4, 0), 0);
        Check.due("an inner one", x.cell(2, 0), 1);
        Check.due("a leaf", x.cell(3, 0), 2);
        x.remove("abcd");
        Check.due("a leaf that was removed", x.cell(3, 0), 0);
        x.add("hh");
        Check.due("a leaf that became inner", x.cell(9, 0), 1);
    }

    @Says(promise = 10, value = "; 1: its parent, 2: the letter by which it is a child")
    static void what1And2TellTheParentAndTheLetter() {
        Words x = Tables.four();
        Check.due("the parent of an inner cell", x.cell(2, 1), 0);
        Check.due("the letter of an inner cell", x.cell(2, 2), 1);
        Check.due("the parent of a leaf by 0", x.cell(1, 1), 2);
        Check.due("the letter of a leaf by 0", x.cell(1, 2), 0);
        Check.due("the parent of a leaf by h", x.cell(9, 1), 0);
        Check.due("the letter of a leaf by h", x.cell(9, 2), 8);
    }

    @Says(promise = 10, value = ", NONE for both for the root, and for a free one")
    static void theRootAndAFreeCellHaveNoParent() {
        Words x = Tables.four();
        for (int what = 1; what <= 2; what++) {
            Check.due("the root's " + what, x.cell(0, what), -1);
            Check.due("a free one's " + what, x.cell(4, what), -1);
        }
        x.remove("abcd");
        x.remove("a");
        for (int what = 1; what <= 2; what++) {
            Check.due("a removed leaf's " + what, x.cell(3, what), -1);
            Check.due("a freed inner cell's " + what, x.cell(2, what), -1);
        }
    }

    @Says(promise = 10, value = "; 3: its offset, 0 without children, for a leaf, or a free one")
    static void what3TellsTheOffset() {
        Words x = Tables.of("a", "aa", "b");
        Check.due("the root's", x.cell(0, 3), 4);
        Check.due("an inner cell's", x.cell(5, 3), 3);
        Check.due("a leaf's", x.cell(6, 3), 0);
        Check.due("a free one's", x.cell(9, 3), 0);
        Check.due("a free one's, where an inner cell was", x.cell(2, 3), 0);
        Check.due("the root's without children", new Words().cell(0, 3), 0);
        x.remove("a");
        x.remove("aa");
        Check.due("a freed inner cell's", x.cell(5, 3), 0);
    }

    @Says(promise = 10, value = "; 4: the place of its end, NONE if it is no leaf")
    static void what4TellsThePlaceOfTheEnd() {
        Words x = Tables.four();
        Check.due("abcd's", x.cell(3, 4), 0);
        Check.due("h's", x.cell(9, 4), 1);
        Check.due("gbcd's", x.cell(8, 4), 2);
        Check.due("the root's", x.cell(0, 4), -1);
        Check.due("an inner cell's", x.cell(2, 4), -1);
        Check.due("a free one's", x.cell(4, 4), -1);
        x.add("hh");
        Check.due("that of a leaf that became inner", x.cell(9, 4), -1);
        x.remove("gbcd");
        Check.due("that of a leaf that was removed", x.cell(8, 4), -1);
        Words all = Tables.allEnds();
        Check.due("the last place", all.cell(all.find("eheh"), 4), 39);
    }

    @Says(promise = 10, value = "; 5: its children, how many")
    static void what5TellsHowManyChildren() {
        Words x = Tables.of("a", "ah", "aa", "ab", "ac", "ad", "ae", "af", "ag");
        int inner = x.cell(x.find("a"), 1);
        Check.due("the most: nine", x.cell(inner, 5), 9);
        Check.due("one", x.cell(0, 5), 1);
        Check.due("a leaf's", x.cell(x.find("a"), 5), 0);
        Check.due("a free one's", x.cell(159, 5), 0);
        x.remove("a");
        Check.due("without the one by 0", x.cell(inner, 5), 8);
        Check.due("the root's without words", new Words().cell(0, 5), 0);
    }

    @Says(promise = 10, value = "; 6: the words below it (1 for a leaf)")
    static void what6TellsTheWordsBelow() {
        Words x = Tables.of("a", "ab", "abc", "abd", "b");
        Check.due("the root's", x.cell(0, 6), 5);
        Check.due("a leaf's", x.cell(x.find("b"), 6), 1);
        int ab = x.cell(x.find("abc"), 1);
        Check.due("those of ab..", x.cell(ab, 6), 3);
        Check.due("those of a..", x.cell(x.cell(ab, 1), 6), 4);
        Check.due("a free one's", x.cell(159, 6), 0);
        x.remove("abc");
        Check.due("those of ab.. without abc", x.cell(ab, 6), 2);
        Check.due("the root's without abc", x.cell(0, 6), 4);
        Check.due("the root's without words", new Words().cell(0, 6), 0);
    }

    @Says(promise = 10, value = "Throws `IndexOutOfBoundsException` if there is no such cell")
    static void cellThrowsForMinus1And160() {
        Words x = Tables.four();
        for (int cell : NO_CELLS) {
            for (int what = 0; what <= 6; what++) {
                int property = what;
                Check.dueThrowUnchanged("cell(" + cell + ", " + what + ")", x, () -> x.cell(cell, property),
                        IndexOutOfBoundsException.class);
            }
        }
    }

    @Says(promise = 10, value = "Throws `IllegalArgumentException` if what is not 0 to 6")
    static void cellThrowsForWhatMinus1And7() {
        Words x = Tables.four();
        for (int what : NO_WHATS) {
            for (int cell : new int[] {0, 3, 4, 159}) {
                Check.dueThrowUnchanged("cell(" + cell + ", " + what + ")", x, () -> x.cell(cell, what),
                        IllegalArgumentException.class);
            }
        }
    }
}
