/** What the document says under "Undo", and promise 9. */
public final class UndoTest {
    public static void main(String[] args) {
        Check.run(UndoTest.class);
    }

    private static Words some() {
        return Tables.of("abc", "abd");
    }

    // ---- what is saved

    @Says("Each method that is marked \"undoable\" and does not throw an exception saves the state from before it")
    static void eachUndoableMethodSavesOneState() {
        Words x = some();
        x.add("h");
        Check.due("add()", x.count(9), 3);
        x.remove("h");
        Check.due("remove()", x.count(9), 4);
        x.type("abc");
        x.removeAll();
        Check.due("removeAll()", x.count(9), 5);
        x.pack();
        Check.due("pack()", x.count(9), 6);
    }

    @Says("saves the state from before it")
    static void theStateFromBeforeIsSaved() {
        Words x = some();
        x.type("abc");
        long[] before = new long[4];
        before[0] = x.digest();
        x.remove();
        before[1] = x.digest();
        x.add();
        before[2] = x.digest();
        x.removeAll();
        before[3] = x.digest();
        x.pack();
        for (int i = 3; i >= 0; i--) {
            x.undo();
            Check.due("digest() of state " + i, x.digest(), before[i]);
        }
    }

    @Says("and does not throw an exception")
    static void aMethodThatThrowsSavesNoState() {
        Words x = some();
        x.type("abd");
        Check.dueThrow("add()", () -> x.add(), IllegalStateException.class);
        Check.due("add() of a word that is there", x.count(9), 2);
        x.type("ab");
        Check.dueThrow("remove()", () -> x.remove(), IllegalStateException.class);
        Check.due("remove() of a word that is not there", x.count(9), 2);
        x.clearBuffer();
        Check.dueThrow("add()", () -> x.add(), IllegalArgumentException.class);
        Check.dueThrow("remove()", () -> x.remove(), IllegalArgumentException.class);
        Check.due("add() and remove() of none", x.count(9), 2);
        x.undo();
        x.dueWords("the state before abd", "abc");
    }

    @Says("and does not throw an exception")
    static void anAddThatIsRefusedSavesNoState() {
        Words x = Tables.full();
        int words = x.count(0);
        x.type("h");
        Check.dueThrow("add()", () -> x.add(), IllegalStateException.class);
        Check.due("undo()", x.undo(), 5);
        Check.due("undo() takes the last word away", x.count(0), words - 1);
    }

    @Says("and does not throw an exception")
    static void aPackThatThrowsSavesNoState() {
        Words x = Tables.fullAndNotToBePacked();
        int words = x.count(0);
        Check.dueThrow("pack()", () -> x.pack(), IllegalStateException.class);
        x.undo();
        Check.due("undo() takes the last word away", x.count(0), words - 1);
    }

    @Says("(also if it changes nothing)")
    static void aStateIsSavedAlsoIfRemoveAllRemovesNothing() {
        Words x = some();
        x.type("h");
        Check.due("removeAll()", x.removeAll(), 0);
        Check.due("count(9)", x.count(9), 3);
        Check.due("undo()", x.undo(), 2);
        x.dueWords("as before", "abc", "abd");
        Words none = new Words();
        none.removeAll();
        Check.due("count(9) without words", none.count(9), 1);
    }

    @Says("(also if it changes nothing)")
    static void aStateIsSavedAlsoIfPackChangesNothing() {
        Words x = some();
        long before = x.digest();
        Check.due("pack()", x.pack(), 1000);
        Check.due("count(9)", x.count(9), 3);
        Check.due("undo()", x.undo(), 2);
        Check.due("digest()", x.digest(), before);
        Words none = new Words();
        none.pack();
        Check.due("count(9) without words", none.count(9), 1);
    }

    @Says("all but the buffer")
    static void theBufferIsNotRestored() {
        Words x = some();
        x.type("gh");
        x.undo();
        Check.due("count(8)", x.count(8), 2);
        Check.due("the last letter", x.drop(), 8);
        x.clearBuffer();
        x.undo();
        Check.due("an empty one stays empty", x.count(8), 0);
    }

    @Says("and the saved states.")
    static void theSavedStatesAreNotRestored() {
        Words x = Tables.of("a", "b", "c");
        Check.due("undo()", x.undo(), 2);
        Check.due("undo() again goes on backwards", x.undo(), 1);
        x.dueWords("two back", "a");
        x.add("d");
        Check.due("a state more", x.count(9), 2);
        x.undo();
        x.undo();
        Check.due("none left", x.count(9), 0);
        x.dueWords("all back");
    }

    @Says(": all but")
    static void theCellsThatMovedAreRestored() {
        Words x = Tables.of("a", "aa", "b");
        Check.due("moved", x.count(5), 1);
        x.pack();
        Check.due("moved", x.count(5), 2);
        x.undo();
        Check.due("moved", x.count(5), 1);
        x.undo();
        Check.due("moved", x.count(5), 0);
    }

    @Says(": all but")
    static void cellsAndEndsAreRestored() {
        Words x = Tables.four();
        x.type("ab");
        long before = x.digest();
        x.add();
        x.undo();
        Check.due("digest()", x.digest(), before);
        x.dueCell("abcd", 3, 2, 2, 2, 0, 0, 0, 1);
        Check.due("the length of its end", x.end(0, 1), 2);
        Check.due("the uses of the end without letters", x.end(1, 0), 2);
    }

    @Says("Each method that is marked \"undoable\"")
    static void otherMethodsSaveNoState() {
        Words x = some();
        x.append(1);
        x.drop();
        x.clearBuffer();
        x.append(2);
        x.find();
        x.longest();
        x.beginning();
        x.ahead();
        x.ifAdded(0);
        x.ifPacked();
        x.fullness();
        x.digest();
        Check.due("count(9)", x.count(9), 2);
        x.undo();
        Check.due("count(9) behind undo()", x.count(9), 1);
    }

    // ---- how many

    @Says("At most 6 states are saved")
    static void atMostSixStatesAreSaved() {
        Words x = new Words();
        for (int call = 1; call <= 10; call++) {
            x.removeAll();
            Check.due("states behind call " + call, x.count(9), Math.min(call, 6));
        }
        for (int left = 5; left >= 0; left--) {
            Check.due("undo()", x.undo(), left);
        }
        Check.dueThrowUnchanged("a seventh undo()", x, () -> x.undo(), IllegalStateException.class);
    }

    @Says("At most 6 states are saved")
    static void allSixStatesAreKept() {
        Words x = Tables.of("a", "b", "c", "d", "e", "f");
        for (int words = 5; words >= 0; words--) {
            x.undo();
            Check.due("words", x.count(0), words);
        }
    }

    @Says("; the oldest one is dropped first.")
    static void theOldestStateIsDroppedFirst() {
        Words x = Tables.of("a", "b", "c", "d", "e", "f", "g", "h");
        for (int left = 5; left >= 0; left--) {
            Check.due("undo()", x.undo(), left);
            Check.due("words", x.count(0), left + 2);
        }
        x.dueWords("what the two dropped states began with stays", "a", "b");
    }

    @Says("; the oldest one is dropped first.")
    static void theOldestIsDroppedAlsoBehindAnUndo() {
        Words x = Tables.of("a", "b", "c", "d", "e", "f", "g");
        x.undo();
        x.undo();
        // four states are left, with 1 to 4 words; three more come to them, with 5, 6 and 7
        x.with("h", "ha", "hb");
        Check.due("count(9)", x.count(9), 6);
        for (int words = 7; words >= 2; words--) {
            x.undo();
            Check.due("words", x.count(0), words);
        }
        Check.dueThrowUnchanged("undo() of the state with one word", x, () -> x.undo(), IllegalStateException.class);
    }

    // ---- 9 undo

    @Says(promise = 9, value = "Restores the latest saved state")
    static void undoRestoresTheLatestState() {
        Words x = Tables.of("a", "b", "c");
        x.undo();
        x.dueWords("without c", "a", "b");
        x.add("d");
        x.remove("a");
        x.undo();
        x.dueWords("with a", "a", "b", "d");
    }

    @Says(promise = 9, value = ", and drops it.")
    static void undoDropsTheState() {
        Words x = Tables.of("a", "b", "c");
        x.undo();
        Check.due("count(9)", x.count(9), 2);
        x.undo();
        x.dueWords("the one before", "a");
        Check.due("count(9)", x.count(9), 1);
    }

    @Says(promise = 9, value = ", and drops it.")
    static void whatIsDoneBehindAnUndoLeavesOlderStatesAlone() {
        Words x = Tables.of("a", "b");
        x.undo();
        x.with("ca", "cb", "-a");
        x.undo();
        x.undo();
        x.undo();
        x.dueWords("a alone", "a");
        x.undo();
        x.dueWords("none");
        Check.due("the root's offset", x.cell(0, 3), 0);
    }

    @Says(promise = 9, value = "Returns how many saved states are left.")
    static void undoReturnsHowManyStatesAreLeft() {
        Words x = Tables.of("a", "b", "c", "d", "e", "f", "g");
        for (int left = 5; left >= 0; left--) {
            Check.due("undo()", x.undo(), left);
            Check.due("count(9)", x.count(9), left);
        }
    }

    @Says(promise = 9, value = "Throws `IllegalStateException` if there is none")
    static void undoThrowsIfThereIsNone() {
        Words x = new Words();
        Check.dueThrowUnchanged("undo() of a new one", x, () -> x.undo(), IllegalStateException.class);
        x.type("abc");
        Check.dueThrowUnchanged("undo() of letters", x, () -> x.undo(), IllegalStateException.class);
        x.add();
        Check.due("undo() of one word", x.undo(), 0);
        Check.dueThrowUnchanged("undo() again", x, () -> x.undo(), IllegalStateException.class);
        Check.due("words", x.count(0), 0);
    }
}
