/** Promises 8 and 20: pack, ifPacked. */
public final class PackTest {
    public static void main(String[] args) {
        Check.run(PackTest.class);
    }

    /** Nothing has moved when these words have come in so, but adding them by their order moves some cells. */
    private static Words mixed() {
        return Tables.of("h", "d", "b", "ca", "cb", "a", "g");
    }

    // ---- 8 pack

    @Says(promise = 8, value = {"Packs the table anew: it becomes empty, and all words are added by their order.",
            "that move so far are counted on"})
    static void packAddsTheWordsToAnEmptyTableByTheirOrder() {
        Words x = mixed();
        Words y = Tables.of("a", "b", "ca", "cb", "d", "g", "h");
        x.type("ab");
        y.type("ab");
        Check.due("cells that moved so far", x.count(5), 0);
        Check.dueTrue("adding by their order moves some", y.count(5) > 0);
        Check.dueTrue("the tables differ", x.digest() != y.digest());
        x.pack();
        Check.due("digest()", x.digest(), y.digest());
        x.dueWords("packed", "a", "b", "ca", "cb", "d", "g", "h");
    }

    @Says(promise = 8, value = "it becomes empty")
    static void packForgetsOffsetsCellsAndPlaces() {
        Words x = Tables.of("a", "aa", "b", "hde", "-a", "-aa");
        Check.due("the root's offset", x.cell(0, 3), 4);
        Check.due("the place of the end de", x.cell(x.find("hde"), 4), 1);
        x.remove("b");
        x.pack();
        Check.due("the root's offset", x.cell(0, 3), 1);
        x.dueCell("hde", 9, 2, 0, 8, 0, 0, 0, 1);
        Check.due("the uses of place 1", x.end(1, 0), 0);
    }

    @Says(promise = 8, value = "it becomes empty")
    static void packLeavesNoLettersInPlacesThatAreFreeThen() {
        Words x = Tables.of("abc", "bcd", "cde", "-abc", "-bcd");
        x.pack();
        Check.due("ends that are kept", x.count(3), 1);
        Check.due("the letters of these: de", x.count(4), 2);
        for (int place = 1; place <= 2; place++) {
            Check.due("the uses of place " + place, x.end(place, 0), 0);
            Check.due("the length at place " + place, x.end(place, 1), -1);
            Check.due("the first letter at place " + place, x.letter(place, 0), -1);
            Check.due("the second letter at place " + place, x.letter(place, 1), -1);
        }
    }

    @Says(promise = 8, value = "it becomes empty")
    static void packJoinsWhatRemovingLeft() {
        Words x = Tables.of("abcd", "abc", "-abc", "b");
        Check.due("inner cells before", x.count(2), 4);
        x.pack();
        Check.due("inner cells", x.count(2), 1);
        x.dueCell("abcd", 2, 2, 0, 1, 0, 0, 0, 1);
        Check.due("the length of its end", x.end(0, 1), 3);
    }

    @Says(promise = 8, value = "(Cells that move so far are counted on, with those that move by this.)")
    static void packCountsTheCellsThatMovedOn() {
        Words x = Tables.of("a", "aa", "b");
        Check.due("one cell moved so far", x.count(5), 1);
        x.pack();
        Check.due("and one by packing", x.count(5), 2);
        x.pack();
        Check.due("and one by packing again", x.count(5), 3);
        x.clearBuffer();
        x.removeAll();
        x.pack();
        Check.due("and none by packing no words", x.count(5), 3);
    }

    @Says(promise = 8, value = "Undoable.")
    static void packIsUndoable() {
        Words x = Tables.of("abcd", "abc", "-abc", "b", "aa");
        long before = x.digest();
        x.pack();
        Check.due("count(9)", x.count(9), 6);
        Check.dueTrue("packed", x.digest() != before);
        Check.due("undo()", x.undo(), 5);
        Check.due("digest()", x.digest(), before);
        x.pack();
        Check.due("count(9) again", x.count(9), 6);
    }

    @Says(promise = 8, value = "Returns how many cells fewer are used then, plus 1000.")
    static void packReturnsHowManyCellsFewerPlus1000() {
        Check.due("pack() without words", new Words().pack(), 1000);
        Words x = Tables.of("abcd", "abc", "-abc", "b");
        // the root, a, b, c, abcd and b; a, b and c are of no use
        Check.due("cells before", x.count(1), 6);
        Check.due("pack()", x.pack(), 1003);
        Check.due("cells behind", x.count(1), 3);
        Check.due("pack() of what is packed", x.pack(), 1000);
        Words full = Tables.full().with("-abbbbbbbbbba", "-aaaaaaaaaaab");
        // of a's 24 cells two leaves are gone; the two that are left need no inner cells but a's
        Check.due("pack() of a table that was full", full.pack(), 1020);
    }

    @Says(promise = 8, value = "Throws `IllegalStateException` if a word would be refused")
    static void packThrowsIfAWordWouldBeRefused() {
        Words x = Tables.fullAndNotToBePacked();
        Check.due("cells that are used", x.count(1), 159);
        Check.due("states", x.count(9), 6);
        Check.dueThrowUnchanged("pack()", x, () -> x.pack(), IllegalStateException.class);
        Check.due("cells that moved", x.count(5), 0);
        x.dueCell("gbbbbbc, where it was", 159, 2, 157, 3);
    }

    @Says(promise = 8, value = "Throws `IllegalStateException` if a word would be refused")
    static void packDoesNotThrowOfAFullTableAlone() {
        Words x = Tables.full();
        Check.due("cells that are used", x.count(1), 159);
        Check.due("pack()", x.pack(), 1000);
        Check.due("words", x.count(0), 26);
        Words ends = Tables.allEnds();
        Check.due("pack() with all ends", ends.pack(), 1000);
        Check.due("ends that are kept", ends.count(3), 40);
    }

    // ---- 20 ifPacked

    @Says(promise = 20, value = "Tells what packing would bring.")
    static void ifPackedTellsWhatPackThenBrings() {
        Words[] tables = {new Words(), Tables.four(), mixed(), Tables.of("abcd", "abc", "-abc"), Tables.allEnds(),
            Tables.full(), Tables.full().with("-gaaaaab", "-abbbbbbbbbba")};
        for (int i = 0; i < tables.length; i++) {
            Words x = tables[i];
            int foretold = x.ifPacked();
            int fewer = x.count(1) - foretold;
            Check.due("pack() of table " + i, x.pack(), 1000 + fewer);
            Check.due("cells of table " + i, x.count(1), foretold);
        }
    }

    @Says(promise = 20, value = "Returns how many cells would be used then")
    static void ifPackedReturnsHowManyCells() {
        Check.due("without words: the root", new Words().ifPacked(), 1);
        Check.due("a leaf", Tables.of("abcd").ifPacked(), 2);
        Check.due("a chain with two leaves", Tables.of("abcd", "abc").ifPacked(), 6);
        Words x = Tables.of("abcd", "abc", "-abc");
        Check.due("a chain that is of no use", x.ifPacked(), 2);
        Check.due("it is used still", x.count(1), 5);
        Check.due("a full table", Tables.full().ifPacked(), 159);
    }

    @Says(promise = 20, value = "; NONE if a word would be refused.")
    static void ifPackedReturnsNoneIfAWordWouldBeRefused() {
        Words x = Tables.fullAndNotToBePacked();
        Check.due("ifPacked()", x.ifPacked(), -1);
        Check.due("words", x.count(0), 26);
        Check.due("cells", x.count(1), 159);
    }
}
