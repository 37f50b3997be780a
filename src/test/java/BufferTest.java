/** Promises 1 to 4: a new object, append, clearBuffer, drop. */
public final class BufferTest {
    private static final int[] NO_LETTERS = {0, 9, -1, 100, Integer.MIN_VALUE, Integer.MAX_VALUE};

    public static void main(String[] args) {
        newObject();
        append();
        clearBuffer();
        drop();
        Check.finish("BufferTest");
    }

    private static void newObject() {
        PackedWords x = new PackedWords();
        int[] counts = {0, 1, 1, 0, 0, 0, 0, 0, 0, 0};
        for (int what = 0; what < counts.length; what++) {
            Check.due("new: count(" + what + ")", x.count(what), counts[what]);
        }
        Check.due("new: the root's kind", x.cell(0, 0), 1);
        for (int cell = 1; cell < 160; cell++) {
            Check.due("new: the kind of cell " + cell, x.cell(cell, 0), 0);
        }
        for (int place = 0; place < 40; place++) {
            Check.due("new: the uses of place " + place, x.end(place, 0), 0);
        }
        Check.due("new: clearBuffer()", x.clearBuffer(), 0);
        Check.due("two new ones have one digest", new PackedWords().digest(), new PackedWords().digest());
        // objects share nothing
        PackedWords other = new PackedWords();
        Check.add(x, "abc");
        Check.due("the other object's words", other.count(0), 0);
        Check.due("the other object's buffer", other.count(8), 0);
    }

    private static void append() {
        PackedWords x = new PackedWords();
        for (int letter : NO_LETTERS) {
            Check.dueThrowUnchanged("append(" + letter + ")", x, () -> x.append(letter),
                    IllegalArgumentException.class);
        }
        for (int i = 1; i <= 12; i++) {
            Check.due("append, the " + i + "th time", x.append(i <= 8 ? i : 17 - i), i);
            Check.due("count(8)", x.count(8), i);
        }
        Check.dueThrowUnchanged("append to a full buffer", x, () -> x.append(1), IllegalStateException.class);
        Check.dueThrowUnchanged("append to a full buffer", x, () -> x.append(8), IllegalStateException.class);
        for (int letter : NO_LETTERS) {
            Check.dueThrowUnchanged("append(" + letter + ") to a full buffer", x, () -> x.append(letter),
                    IllegalArgumentException.class);
        }
        Check.due("the buffer saves no state", x.count(9), 0);
        x.add();
        Check.dueWords("the buffer's word", x, "abcdefghhgfe");
    }

    private static void clearBuffer() {
        PackedWords x = new PackedWords();
        Check.type(x, "abcde");
        Check.due("clearBuffer()", x.clearBuffer(), 5);
        Check.due("clearBuffer() again", x.clearBuffer(), 0);
        Check.due("count(8)", x.count(8), 0);
        Check.due("append after clearing", x.append(2), 1);
        x.add();
        Check.dueWords("nothing of the cleared letters is left", x, "b");
        Check.type(x, "hhhhhhhhhhhh");
        Check.due("clearBuffer() of a full buffer", x.clearBuffer(), 12);
        Check.due("words stay", x.count(0), 1);
        Check.due("clearBuffer saves no state", x.count(9), 1);
    }

    private static void drop() {
        PackedWords x = new PackedWords();
        Check.dueThrowUnchanged("drop() from an empty buffer", x, () -> x.drop(), IllegalStateException.class);
        Check.type(x, "abcdefghabcd");
        for (int i = 12; i >= 1; i--) {
            Check.due("drop() of letter " + i, x.drop(), (i - 1) % 8 + 1);
            Check.due("count(8)", x.count(8), i - 1);
        }
        Check.dueThrowUnchanged("drop() after the last", x, () -> x.drop(), IllegalStateException.class);
        Check.type(x, "abc");
        x.drop();
        x.append(8);
        x.add();
        Check.dueWords("a letter in place of the dropped one", x, "abh");
        Check.due("drop saves no state", x.count(9), 1);
    }
}
