/** Promises 5 to 9: add, remove, removeAll, pack, undo. */
public final class WordsTest {
    public static void main(String[] args) {
        addLeaves();
        addBehindALeaf();
        rivalMoves();
        cellItselfMoves();
        cellMovesWithItsParentsChildren();
        equalNumbersMoveTheCellItself();
        movedCellsLeaveRoomForTheNewOne();
        endsAreKeptOnce();
        addThrows();
        refusedForEnds();
        refusedForCells();
        cellsOfAFullTable();
        remove();
        removeThrows();
        removeAll();
        pack();
        packThrows();
        undo();
        undoAtMostSix();
        Check.finish("WordsTest");
    }

    private static void dueCell(PackedWords x, String when, int cell, int... properties) {
        for (int what = 0; what < properties.length; what++) {
            Check.due(when + ": cell(" + cell + ", " + what + ")", x.cell(cell, what), properties[what]);
        }
    }

    // ---- 5 add

    private static void addLeaves() {
        PackedWords x = new PackedWords();
        Check.due("add a", Check.add(x, "a"), 2);
        Check.due("the buffer stays", x.count(8), 1);
        Check.due("add h", Check.add(x, "h"), 9);
        Check.due("add cdef", Check.add(x, "cdef"), 4);
        dueCell(x, "three leaves", 0, 1, -1, -1, 1, -1, 3, 3);
        dueCell(x, "three leaves", 2, 2, 0, 1, 0, 0, 0, 1);
        dueCell(x, "three leaves", 4, 2, 0, 3, 0, 1, 0, 1);
        dueCell(x, "three leaves", 3, 0, -1, -1, 0, -1, 0, 0);
        Check.due("three states", x.count(9), 3);
        Check.due("first offset for h alone", Check.add(new PackedWords(), "h"), 9);
    }

    private static void addBehindALeaf() {
        PackedWords x = new PackedWords();
        Check.add(x, "abcd");
        // the leaf 2 becomes inner; b and c in common, at offset 1 both; then d and 0 part, at offset 1 too
        Check.due("add abc", Check.add(x, "abc"), 1);
        dueCell(x, "abcd, abc", 2, 1, 0, 1, 1, -1, 1, 2);
        dueCell(x, "abcd, abc", 3, 1, 2, 2, 1, -1, 1, 2);
        dueCell(x, "abcd, abc", 4, 1, 3, 3, 1, -1, 2, 2);
        dueCell(x, "abcd, abc", 1, 2, 4, 0, 0, 0, 0, 1);
        dueCell(x, "abcd, abc", 5, 2, 4, 4, 0, 0, 0, 1);
        Check.due("one end, without letters, used twice", x.end(0, 0), 2);
        Check.due("its letters", x.end(0, 1), 0);
        Check.dueWords("abcd, abc", x, "abc", "abcd");
        // the other way round, with ends: the old word gets its place first
        PackedWords y = new PackedWords();
        Check.add(y, "aab");
        Check.due("add aefg", Check.add(y, "aefg"), 7);
        dueCell(y, "aab, aefg", 3, 2, 2, 1, 0, 0, 0, 1);
        dueCell(y, "aab, aefg", 7, 2, 2, 5, 0, 1, 0, 1);
        Check.due("the old word's end", y.letter(0, 0), 2);
        Check.due("the new word's end", y.letter(1, 1), 7);
        // twelve letters and eleven of them: the deepest leaves
        PackedWords z = new PackedWords();
        Check.add(z, "aaaaaaaaaaaa");
        Check.add(z, "aaaaaaaaaaa");
        Check.dueWords("the longest words", z, "aaaaaaaaaaa", "aaaaaaaaaaaa");
        Check.due("inner cells", z.count(2), 12);
    }

    private static void rivalMoves() {
        PackedWords x = new PackedWords();
        Check.add(x, "a");
        Check.add(x, "h");
        Check.due("add aa", Check.add(x, "aa"), 4);
        // b wants cell 3, a child of 2, which has two children; the root has three then
        Check.due("add b", Check.add(x, "b"), 3);
        dueCell(x, "the rival has moved", 2, 1, 0, 1, 5, -1, 2, 2);
        dueCell(x, "the rival has moved", 3, 2, 0, 2, 0, 0, 0, 1);
        dueCell(x, "the rival has moved", 4, 0);
        dueCell(x, "the rival has moved", 5, 2, 2, 0);
        dueCell(x, "the rival has moved", 6, 2, 2, 1);
        Check.due("two cells moved", x.count(5), 2);
    }

    private static void cellItselfMoves() {
        PackedWords x = new PackedWords();
        Check.add(x, "a");
        Check.add(x, "aa");
        Check.add(x, "ab");
        Check.add(x, "ac");
        // b wants cell 3; its parent 2 has four children, the root would have two
        Check.due("add b", Check.add(x, "b"), 8);
        dueCell(x, "the root's child has moved", 0, 1, -1, -1, 6, -1, 2, 5);
        dueCell(x, "the root's child has moved", 7, 1, 0, 1, 3, -1, 4, 4);
        dueCell(x, "the root's child has moved", 2, 0, -1, -1, 0, -1, 0, 0);
        for (int cell = 3; cell <= 6; cell++) {
            Check.due("the parent of the moved cell's child " + cell, x.cell(cell, 1), 7);
        }
    }

    private static void cellMovesWithItsParentsChildren() {
        PackedWords x = new PackedWords();
        Check.add(x, "a");
        Check.add(x, "aa");
        Check.add(x, "d");
        // ab wants cell 5, a child of the root, which has two children; the cell of a has three then and is one of both
        Check.due("add ab", Check.add(x, "ab"), 5);
        dueCell(x, "the root's children have moved", 0, 1, -1, -1, 5, -1, 2, 4);
        dueCell(x, "the root's children have moved", 6, 1, 0, 1, 3, -1, 3, 3);
        dueCell(x, "the root's children have moved", 9, 2, 0, 4);
        dueCell(x, "the root's children have moved", 5, 2, 6, 2);
        dueCell(x, "the root's children have moved", 3, 2, 6, 0);
        dueCell(x, "the root's children have moved", 2, 0);
        Check.due("two cells moved", x.count(5), 2);
        Check.dueWords("the root's children have moved", x, "a", "aa", "ab", "d");
    }

    private static void equalNumbersMoveTheCellItself() {
        PackedWords x = new PackedWords();
        Check.add(x, "a");
        Check.add(x, "aa");
        // b wants cell 3, whose parent has two children, as many as the root then
        Check.due("add b", Check.add(x, "b"), 6);
        dueCell(x, "the root's child has moved", 0, 1, -1, -1, 4, -1, 2, 3);
        dueCell(x, "the root's child has moved", 5, 1, 0, 1, 3, -1, 2, 2);
        Check.due("one cell moved", x.count(5), 1);
    }

    private static void movedCellsLeaveRoomForTheNewOne() {
        PackedWords x = new PackedWords();
        Check.add(x, "a");
        Check.add(x, "aa");
        Check.add(x, "ac");
        // the root's child alone would have room in cell 5, but 6 behind it is ac's
        Check.due("add b", Check.add(x, "b"), 8);
        dueCell(x, "the root's child has moved", 7, 1, 0, 1, 3, -1, 3, 3);
        dueCell(x, "the root's child has moved", 6, 2, 7, 3);
        dueCell(x, "the root's child has moved", 5, 0);
        Check.dueWords("the root's child has moved", x, "a", "aa", "ac", "b");
    }

    private static void endsAreKeptOnce() {
        PackedWords x = new PackedWords();
        Check.add(x, "abc");
        Check.add(x, "bbc");
        Check.add(x, "c");
        Check.add(x, "d");
        Check.add(x, "efg");
        Check.due("the end bc is used twice", x.end(0, 0), 2);
        Check.due("the end without letters is used twice", x.end(1, 0), 2);
        Check.due("the end fg", x.end(2, 0), 1);
        Check.remove(x, "d");
        Check.remove(x, "c");
        Check.add(x, "fgh");
        Check.due("a new end comes to the lowest free place", x.cell(Check.find(x, "fgh"), 4), 1);
        // the end that the leaf gives up is free for the old word's new one
        Check.add(x, "eff");
        Check.due("the old word's end", x.cell(Check.find(x, "efg"), 4), 2);
        Check.due("the new word's end", x.cell(Check.find(x, "eff"), 4), 2);
        Check.due("it has no letters", x.end(2, 1), 0);
    }

    private static void addThrows() {
        PackedWords x = new PackedWords();
        Check.dueThrowUnchanged("add() of nothing", x, () -> x.add(), IllegalArgumentException.class);
        Check.add(x, "abc");
        Check.dueThrowUnchanged("add() of a word that is there", x, () -> x.add(), IllegalStateException.class);
        Check.add(x, "ab");
        Check.dueThrowUnchanged("add() of a word that is there", x, () -> x.add(), IllegalStateException.class);
        x.clearBuffer();
        Check.dueThrowUnchanged("add() of nothing", x, () -> x.add(), IllegalArgumentException.class);
        Check.due("states", x.count(9), 2);
    }

    private static String letters(int number, int length) {
        StringBuilder text = new StringBuilder();
        for (int i = 0; i < length; i++) {
            text.append((char) ('a' + (number >> 3 * i & 7)));
        }
        return text.toString();
    }

    /** Forty words with forty ends. */
    private static PackedWords withAllEnds() {
        PackedWords x = new PackedWords();
        for (int i = 0; i < 40; i++) {
            Check.add(x, letters(i, 2) + letters(i, 2) + "a");
        }
        return x;
    }

    private static void refusedForEnds() {
        PackedWords x = withAllEnds();
        Check.due("ends that are kept", x.count(3), 40);
        Check.type(x, "hhhh");
        Check.dueThrowUnchanged("add() of a word whose end has no place", x, () -> x.add(),
                IllegalStateException.class);
        Check.due("ifAdded(0)", x.ifAdded(0), 2);
        // an end that is kept already needs no place
        Check.due("add a word with an end that is kept (2 leaf)", x.cell(Check.add(x, "hh" + letters(9, 2) + "a"), 0), 2);
        Check.due("ends that are kept", x.count(3), 40);
        Check.remove(x, "aaaaa");
        Check.due("a place is free", x.count(3), 39);
        Check.add(x, "hghh");
        Check.due("it is used", x.count(3), 40);
    }

    /** Adds words of three letters until one is refused; the buffer holds that one. */
    private static PackedWords withAllCells() {
        PackedWords x = new PackedWords();
        for (int i = 0; i < 512; i++) {
            Check.type(x, letters(i, 3));
            if (x.ifAdded(0) == 2) {
                return x;
            }
            x.add();
        }
        Check.due("no word was refused", 1, 0);
        return x;
    }

    private static void refusedForCells() {
        PackedWords x = withAllCells();
        Check.due("fewer ends than places (1 yes)", x.count(3) < 39 ? 1 : 0, 1);
        Check.dueThrowUnchanged("add() of a word without a cell", x, () -> x.add(), IllegalStateException.class);
        for (int what = 1; what <= 3; what++) {
            Check.due("ifAdded(" + what + ") of a refused word", x.ifAdded(what), -1);
        }
    }

    private static void cellsOfAFullTable() {
        PackedWords x = withAllCells();
        Check.due("cells have moved (1 yes)", x.count(5) > 0 ? 1 : 0, 1);
        int[] children = new int[160];
        for (int cell = 1; cell < 160; cell++) {
            if (x.cell(cell, 0) != 0) {
                int parent = x.cell(cell, 1);
                Check.due("the kind of the parent of cell " + cell, x.cell(parent, 0), 1);
                Check.due("where cell " + cell + " stands", cell, x.cell(parent, 3) + x.cell(cell, 2));
                children[parent]++;
            }
        }
        for (int cell = 0; cell < 160; cell++) {
            Check.due("the children of cell " + cell, x.cell(cell, 5), children[cell]);
        }
        for (int rank = 0; rank < x.count(0); rank++) {
            int leaf = Check.find(x, Check.wordAt(x, rank));
            Check.due("the leaf of rank " + rank + " tells a leaf", x.cell(leaf, 0), 2);
        }
    }

    // ---- 6 remove

    private static void remove() {
        PackedWords x = new PackedWords();
        Check.add(x, "abcd");
        Check.add(x, "abc");
        Check.add(x, "b");
        Check.due("remove abc, a leaf alone", Check.remove(x, "abc"), 1);
        Check.due("the buffer stays", x.count(8), 3);
        Check.dueWords("abc is removed", x, "abcd", "b");
        Check.due("cells are not joined again", x.count(2), 4);
        Check.due("remove abcd, with the inner cells above", Check.remove(x, "abcd"), 4);
        Check.due("the root alone is inner", x.count(2), 1);
        Check.due("remove b, the last", Check.remove(x, "b"), 1);
        Check.due("the root stays", x.cell(0, 0), 1);
        Check.due("the root's offset without children", x.cell(0, 3), 0);
        Check.due("no end is kept", x.count(3), 0);
        Check.due("no letters of ends", x.letter(0, 0), -1);
        Check.due("each is undoable", x.count(9), 6);
        Check.due("add anew", Check.add(x, "h"), 9);
    }

    private static void removeThrows() {
        PackedWords x = new PackedWords();
        Check.dueThrowUnchanged("remove() of nothing", x, () -> x.remove(), IllegalArgumentException.class);
        Check.add(x, "abc");
        String[] others = {"ab", "abcd", "a", "b", "abd", "abcabcabcabc"};
        for (String other : others) {
            Check.type(x, other);
            Check.dueThrowUnchanged("remove() of " + other, x, () -> x.remove(), IllegalStateException.class);
        }
        Check.remove(x, "abc");
        Check.dueThrowUnchanged("remove() again", x, () -> x.remove(), IllegalStateException.class);
    }

    // ---- 7 removeAll

    private static void removeAll() {
        PackedWords x = new PackedWords();
        Check.due("removeAll() of no words", x.removeAll(), 0);
        Check.due("it saves a state", x.count(9), 1);
        String[] words = {"a", "ab", "abc", "abd", "ac", "b", "babab"};
        for (String word : words) {
            Check.add(x, word);
        }
        Check.type(x, "ab");
        Check.due("removeAll() of ab", x.removeAll(), 3);
        Check.due("the buffer stays", x.count(8), 2);
        Check.dueWords("ab.. is removed", x, "a", "ac", "b", "babab");
        Check.due("removeAll() of ab again", x.removeAll(), 0);
        Check.type(x, "bab");
        Check.due("removeAll() of a start within an end", x.removeAll(), 1);
        Check.type(x, "bb");
        Check.due("removeAll() of no word's start", x.removeAll(), 0);
        x.undo();
        x.undo();
        Check.dueWords("undone as one call", x, "a", "ac", "b", "babab");
        x.undo();
        x.undo();
        Check.dueWords("undone as one call", x, "a", "ab", "abc", "abd", "ac", "b", "babab");
        x.clearBuffer();
        Check.due("removeAll() of all", x.removeAll(), 7);
        Check.due("the root is left", x.count(1), 1);
        Check.due("no end is left", x.count(3), 0);
    }

    // ---- 8 pack

    private static void pack() {
        PackedWords x = new PackedWords();
        Check.due("pack() of no words", x.pack(), 1000);
        Check.due("it saves a state", x.count(9), 1);
        Check.add(x, "abcd");
        Check.add(x, "abc");
        Check.remove(x, "abc");
        Check.add(x, "b");
        // abcd's chain of inner cells becomes one leaf
        Check.due("ifPacked()", x.ifPacked(), 3);
        int moved = x.count(5);
        Check.due("pack()", x.pack(), x.count(1) == 3 ? 1003 : 0);
        Check.dueWords("packed", x, "abcd", "b");
        Check.due("inner cells", x.count(2), 1);
        Check.due("moves are counted on", x.count(5), moved);
        Check.due("the end bcd has the first place", x.end(0, 1), 3);
        Check.due("the buffer stays", x.count(8), 1);
        PackedWords y = new PackedWords();
        Check.add(y, "a");
        Check.add(y, "aa");
        Check.add(y, "b");
        Check.due("one cell moved", y.count(5), 1);
        Check.due("pack() with a move of its own", y.pack(), 1000);
        Check.due("both moves", y.count(5), 2);
        y.undo();
        Check.due("undone", y.count(5), 1);
    }

    private static void packThrows() {
        PackedWords x = refusingToPack();
        Check.due("ifPacked()", x.ifPacked(), -1);
        Check.dueThrowUnchanged("pack() with a word that would be refused", x, () -> x.pack(),
                IllegalStateException.class);
        Check.due("states stay", x.count(9), 6);
    }

    /** Seeks a full table that came about by another order than the words' own. */
    private static PackedWords refusingToPack() {
        for (int way = 1; way < 400; way++) {
            PackedWords x = new PackedWords();
            long seed = way;
            for (int i = 0; i < 300; i++) {
                seed = seed * 6364136223846793005L + 1442695040888963407L;
                Check.type(x, letters((int) (seed >>> 40), 1 + (int) (seed >>> 33 & 3)));
                if (x.ifAdded(0) == 0) {
                    x.add();
                }
            }
            if (x.ifPacked() == -1) {
                return x;
            }
        }
        Check.due("no table was found that cannot be packed", 1, 0);
        return new PackedWords();
    }

    // ---- 9 undo

    private static void undo() {
        PackedWords x = new PackedWords();
        Check.dueThrowUnchanged("undo() of nothing", x, () -> x.undo(), IllegalStateException.class);
        Check.type(x, "ab");
        long empty = x.digest();
        x.add();
        long one = x.digest();
        Check.add(x, "ac");
        Check.due("undo() of ac", x.undo(), 1);
        Check.due("the buffer stays", x.count(8), 2);
        Check.type(x, "ab");
        Check.due("as before", x.digest(), one);
        Check.due("undo() of ab", x.undo(), 0);
        Check.due("as before", x.digest(), empty);
        Check.dueThrowUnchanged("undo() of nothing", x, () -> x.undo(), IllegalStateException.class);
        Check.due("the undone word can be added", x.add(), 2);
        Check.due("undo() saves no state", x.count(9), 1);
    }

    private static void undoAtMostSix() {
        PackedWords x = new PackedWords();
        String[] words = {"a", "b", "c", "d", "e", "f", "g", "h"};
        for (int i = 0; i < words.length; i++) {
            Check.add(x, words[i]);
            Check.due("saved states", x.count(9), Math.min(6, i + 1));
        }
        for (int left = 5; left >= 0; left--) {
            Check.due("undo()", x.undo(), left);
            Check.due("words", x.count(0), left + 2);
        }
        Check.dueThrowUnchanged("undo() beyond the sixth", x, () -> x.undo(), IllegalStateException.class);
        Check.dueWords("the oldest states were dropped", x, "a", "b");
    }
}
