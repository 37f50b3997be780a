/** What the document says under "Removing", and promises 6 and 7. */
public final class RemovingTest {
    public static void main(String[] args) {
        Check.run(RemovingTest.class);
    }

    // ---- removing

    @Says("The leaf of the word is free then")
    static void theLeafIsFree() {
        Words x = Tables.four();
        x.remove("gbcd");
        x.dueCell("gbcd's leaf", 8, 0, -1, -1, 0, -1, 0, 0);
        x.dueCell("the root", 0, 1, -1, -1, 1, -1, 2, 3);
        x.remove("a");
        x.dueCell("a's leaf, by 0", 1, 0, -1, -1, 0, -1, 0, 0);
        x.dueWords("without both", "abcd", "h");
    }

    @Says("The leaf of the word is free then")
    static void theFreeLeafsCellIsUsedAgain() {
        Words x = Tables.four();
        x.remove("gbcd");
        Check.due("add gg", x.add("gg"), 8);
        Words full = Tables.full();
        full.type("gaaaab");
        Check.due("ifAdded(0) when the table is full", full.ifAdded(0), 2);
        full.remove("gaaaaab");
        Check.due("the only free cell besides 1", full.cell(159, 0), 0);
        // gaaaa's offset is 156, and 158 is still used
        Check.due("add gaaaaab again", full.add("gaaaaab"), 159);
    }

    @Says(", its end is used once less.")
    static void theEndIsUsedOnceLess() {
        Words x = Tables.four();
        x.remove("h");
        Check.due("the uses of an end of two leaves", x.end(1, 0), 1);
        Check.due("its length", x.end(1, 1), 0);
        x.remove("a");
        Check.due("the uses of that end", x.end(1, 0), 0);
        Check.due("its length", x.end(1, 1), -1);
        Check.due("ends that are kept", x.count(3), 2);
    }

    @Says("An inner cell (but the root) that has no children then is free, too")
    static void anInnerCellWithoutChildrenIsFree() {
        Words x = Tables.of("abc", "ab", "h", "-ab");
        // a's cell 2 and b's cell 3 have one child each
        x.dueCell("b's cell, with one child", 3, 1, 2, 2, 1, -1, 1, 1);
        Check.due("remove abc", x.remove("abc"), 3);
        x.dueCell("b's cell", 3, 0, -1, -1, 0, -1, 0, 0);
        x.dueCell("a's cell", 2, 0, -1, -1, 0, -1, 0, 0);
        x.dueCell("the root", 0, 1, -1, -1, 1, -1, 1, 1);
    }

    @Says(", and so on upwards.")
    static void cellsAreFreeUpToTheFirstWithOtherChildren() {
        Words x = Tables.of("abcdef", "abcdeg", "abh");
        int ab = x.cell(x.find("abh"), 1);
        Check.due("remove abcdef: its leaf alone", x.remove("abcdef"), 1);
        Check.due("remove abcdeg: its leaf and e, d and c", x.remove("abcdeg"), 4);
        x.dueCell("b's cell, which has a child by h", ab, 1, 2, 2, x.cell(ab, 3), -1, 1, 1);
        Check.due("cells that are used: the root, a, b and h", x.count(1), 4);
    }

    @Says("(but the root)")
    static void theRootStaysWithoutChildren() {
        Words x = Tables.of("abc", "abd", "-abc");
        Check.due("remove abd: its leaf, b and a", x.remove("abd"), 3);
        x.dueCell("the root", 0, 1, -1, -1, 0, -1, 0, 0);
        Check.due("cells that are used", x.count(1), 1);
        Check.due("a word of one cell", Tables.of("h").remove("h"), 1);
    }

    @Says("(Cells and ends are not joined again.)")
    static void cellsAreNotJoinedAgain() {
        Words x = Tables.of("abcd", "abce", "-abce");
        x.dueCell("a", 2, 1, 0, 1);
        Check.due("inner cells: the root, a, b and c", x.count(2), 4);
        Check.due("cells that are used", x.count(1), 5);
        Check.due("add abce again, where it was", x.add("abce"), x.cell(x.cell(x.find("abcd"), 1), 3) + 5);
    }

    @Says("(Cells and ends are not joined again.)")
    static void endsAreNotJoinedAgain() {
        Words x = Tables.of("abcd", "abcefgh", "-abcefgh");
        int place = x.cell(x.find("abcd"), 4);
        Check.due("the length of abcd's end", x.end(place, 1), 0);
        Check.due("letters of all ends", x.count(4), 0);
    }

    // ---- 6 remove

    @Says("Ahead of the calls `add`, `remove`, `removeAll`, `pack`, `undo` the interface says: ---- words.")
    static void theWordsCallsLeaveTheBuffer() {
        Words x = Tables.four();
        x.type("bb");
        x.add();
        x.remove();
        x.removeAll();
        x.pack();
        x.undo();
        Check.due("count(8)", x.count(8), 2);
        Check.due("the last letter", x.drop(), 2);
        Check.due("the first letter", x.drop(), 2);
    }

    @Says(promise = 6, value = "Removes the word in the buffer")
    static void removeRemovesTheWordAlone() {
        Words x = Tables.of("a", "ab", "abc", "abd", "b");
        x.remove("ab");
        x.dueWords("without ab", "a", "abc", "abd", "b");
        Check.due("find ab", x.find("ab"), -1);
    }

    @Says(promise = 6, value = ", which stays.")
    static void theBufferStaysWhenItsWordIsRemoved() {
        Words x = Tables.of("abc");
        x.remove();
        Check.due("count(8)", x.count(8), 3);
        Check.due("add() again", x.add(), 2);
        x.dueWords("again", "abc");
    }

    @Says(promise = 6, value = "Undoable.")
    static void removeIsUndoable() {
        Words x = Tables.of("abcd", "abce", "aaaa");
        x.type("abce");
        long before = x.digest();
        x.remove();
        Check.due("count(9)", x.count(9), 4);
        Check.due("undo()", x.undo(), 3);
        Check.due("digest()", x.digest(), before);
    }

    @Says(promise = 6, value = "Returns how many cells are free by that.")
    static void removeReturnsHowManyCellsAreFreeByThat() {
        Words x = Tables.of("aaaaaaaaaaaa", "aaaaaaaaaaab", "b");
        int used = x.count(1);
        Check.due("remove aaaaaaaaaaab: its leaf", x.remove("aaaaaaaaaaab"), 1);
        Check.due("cells that are used", x.count(1), used - 1);
        Check.due("remove aaaaaaaaaaaa: its leaf and the inner cells behind eleven letters",
                x.remove("aaaaaaaaaaaa"), 12);
        Check.due("cells that are used", x.count(1), used - 13);
        Check.due("remove b", x.remove("b"), 1);
    }

    @Says(promise = 6, value = "Throws `IllegalArgumentException` if the buffer is empty")
    static void removeThrowsIfTheBufferIsEmpty() {
        Words x = new Words();
        Check.dueThrowUnchanged("remove() from none", x, () -> x.remove(), IllegalArgumentException.class);
        Words four = Tables.four();
        Check.dueThrowUnchanged("remove()", four, () -> four.remove(), IllegalArgumentException.class);
    }

    @Says(promise = 6, value = "Throws `IllegalStateException` if the word is not there")
    static void removeThrowsIfTheWordIsNotThere() {
        Words x = Tables.of("abc", "abd", "gg");
        for (String other : new String[] {"ab", "abcd", "a", "b", "abe", "g", "ggg", "gh", "abcabcabcabc"}) {
            x.type(other);
            Check.dueThrowUnchanged("remove() of " + other, x, () -> x.remove(), IllegalStateException.class);
        }
        x.remove("abc");
        Check.dueThrowUnchanged("remove() of abc again", x, () -> x.remove(), IllegalStateException.class);
        Words none = new Words();
        none.type("a");
        Check.dueThrowUnchanged("remove() from none", none, () -> none.remove(), IllegalStateException.class);
    }

    // ---- 7 removeAll

    private static Words seven() {
        return Tables.of("a", "ab", "abc", "abd", "ac", "b", "babab");
    }

    private static int removeAll(Words x, String start) {
        x.type(start);
        return x.removeAll();
    }

    @Says(promise = 7, value = "Removes all words that begin with the letters in the buffer")
    static void removeAllRemovesTheWordsThatBeginSo() {
        Words x = seven();
        removeAll(x, "ab");
        x.dueWords("without ab..", "a", "ac", "b", "babab");
        removeAll(x, "bab");
        x.dueWords("without bab.., whose letters stand in an end", "a", "ac", "b");
        removeAll(x, "a");
        x.dueWords("without a..", "b");
    }

    @Says(promise = 7, value = "that begin with the letters in the buffer")
    static void removeAllRemovesNoneThatBeginsOtherwise() {
        Words x = seven();
        for (String start : new String[] {"aba", "abcd", "bb", "babb", "bababa", "h", "abcdefghabcd"}) {
            Check.due("removeAll() of " + start, removeAll(x, start), 0);
        }
        x.dueWords("all seven", "a", "ab", "abc", "abd", "ac", "b", "babab");
    }

    @Says(promise = 7, value = "(all words, if it is empty)")
    static void removeAllRemovesAllWordsIfTheBufferIsEmpty() {
        Words x = seven();
        Check.due("removeAll()", removeAll(x, ""), 7);
        Check.due("words", x.count(0), 0);
        Check.due("cells that are used", x.count(1), 1);
        Check.due("ends that are kept", x.count(3), 0);
        x.dueCell("the root", 0, 1, -1, -1, 0, -1, 0, 0);
        Words full = Tables.full();
        Check.due("removeAll() of a full table", removeAll(full, ""), 26);
        Check.due("cells that are used", full.count(1), 1);
        Check.due("the greatest one", full.count(6), 0);
    }

    @Says(promise = 7, value = ", one after the other, by their order.")
    static void removeAllLeavesWhatRemovingOneByOneLeaves() {
        Words x = seven().with("abcdef", "abcdeg", "hh", "aa", "aah");
        Words y = seven().with("abcdef", "abcdeg", "hh", "aa", "aah");
        Check.due("removeAll() of ab", removeAll(x, "ab"), 5);
        y.with("-ab", "-abc", "-abcdef", "-abcdeg", "-abd").type("ab");
        Check.due("digest()", x.digest(), y.digest());
    }

    @Says(promise = 7, value = "Undoable, as one call.")
    static void removeAllIsUndoneAsOneCall() {
        Words x = Tables.of("a", "ab", "abc", "abd");
        x.type("ab");
        long before = x.digest();
        x.removeAll();
        Check.due("count(9)", x.count(9), 5);
        Check.due("undo()", x.undo(), 4);
        Check.due("digest()", x.digest(), before);
        x.dueWords("all again", "a", "ab", "abc", "abd");
        // 26 words, more than states are saved
        Words full = Tables.full();
        removeAll(full, "");
        full.undo();
        Check.due("words of the full table again", full.count(0), 26);
        Check.due("its cells", full.count(1), 159);
    }

    @Says(promise = 7, value = "Returns how many words are removed.")
    static void removeAllReturnsHowManyWords() {
        Words x = seven();
        Check.due("removeAll() of abd, one word", removeAll(x, "abd"), 1);
        Check.due("removeAll() of abd again", removeAll(x, "abd"), 0);
        Check.due("removeAll() of a", removeAll(x, "a"), 4);
        Check.due("removeAll() of all", removeAll(x, ""), 2);
        Check.due("removeAll() of none", x.removeAll(), 0);
        Check.due("removeAll() of a new one", new Words().removeAll(), 0);
    }
}
