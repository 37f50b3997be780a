/** Promises 19 to 22: ifAdded, ifPacked, fullness, digest. */
public final class ForecastTest {
    public static void main(String[] args) {
        ifAdded();
        ifAddedWithMoves();
        ifAddedThrows();
        ifPacked();
        fullness();
        digestOfANewObject();
        digestTellsStatesApart();
        looksChangeNothing();
        Check.finish("ForecastTest");
    }

    private static void dueIfAdded(PackedWords x, String word, int... due) {
        Check.type(x, word);
        for (int what = 0; what < due.length; what++) {
            Check.due("ifAdded(" + what + ") with " + word, x.ifAdded(what), due[what]);
        }
    }

    private static void ifAdded() {
        PackedWords x = new PackedWords();
        dueIfAdded(x, "", 3, -1, -1, -1);
        dueIfAdded(x, "abc", 0, 1, 0, 101);
        x.add();
        dueIfAdded(x, "abc", 1, -1, -1, -1);
        // ends c and 0 instead of bc
        dueIfAdded(x, "a", 0, 2, 0, 101);
        // both ends without letters instead of bc
        dueIfAdded(x, "abd", 0, 3, 0, 100);
        dueIfAdded(x, "abcd", 0, 4, 0, 100);
        dueIfAdded(x, "bbc", 0, 1, 0, 100);
        Check.add(x, "ddddddd");
        Check.add(x, "e");
        // bc is given up, and the end without letters is kept already
        dueIfAdded(x, "abd", 0, 3, 0, 99);
        Check.due("states", x.count(9), 3);
    }

    private static void ifAddedWithMoves() {
        PackedWords x = new PackedWords();
        Check.add(x, "a");
        Check.add(x, "h");
        Check.add(x, "aa");
        dueIfAdded(x, "b", 0, 1, 2, 100);
        Check.due("nothing has moved", x.count(5), 0);
        Check.due("nothing is added", x.count(0), 3);
        x.add();
        Check.due("as foretold", x.count(5), 2);
        Check.add(x, "ab");
        int moved = x.count(5);
        dueIfAdded(x, "c", 0, 1);
        int more = x.ifAdded(2);
        x.add();
        Check.due("as foretold, and not with those before", x.count(5), moved + more);
    }

    private static void ifAddedThrows() {
        PackedWords x = new PackedWords();
        int[] noWhats = {-1, 4, -2, 1000, Integer.MIN_VALUE, Integer.MAX_VALUE};
        for (int what : noWhats) {
            Check.dueThrowUnchanged("ifAdded(" + what + ")", x, () -> x.ifAdded(what),
                    IllegalArgumentException.class);
        }
        Check.type(x, "abc");
        for (int what : noWhats) {
            Check.dueThrowUnchanged("ifAdded(" + what + ")", x, () -> x.ifAdded(what),
                    IllegalArgumentException.class);
        }
    }

    private static void ifPacked() {
        PackedWords x = new PackedWords();
        Check.due("ifPacked() without words", x.ifPacked(), 1);
        Check.add(x, "abcd");
        Check.due("ifPacked() of a leaf", x.ifPacked(), 2);
        Check.add(x, "abc");
        Check.due("ifPacked() of a chain", x.ifPacked(), 6);
        Check.remove(x, "abc");
        Check.due("ifPacked() of a chain that is of no use", x.ifPacked(), 2);
        Check.due("it is used still", x.count(1), 5);
        x.pack();
        Check.due("as foretold", x.count(1), 2);
    }

    private static void fullness() {
        PackedWords x = new PackedWords();
        Check.dueDouble("fullness() of a new one", x.fullness(), 1.0);
        Check.add(x, "h");
        Check.dueDouble("fullness() with h", x.fullness(), 2.0 / 10.0);
        Check.add(x, "a");
        Check.dueDouble("fullness() with a too", x.fullness(), 3.0 / 10.0);
        Check.remove(x, "h");
        Check.dueDouble("fullness() without h", x.fullness(), 2.0 / 3.0);
    }

    /** The digest's list written out by the document, for a new object. */
    private static void digestOfANewObject() {
        StringBuilder list = new StringBuilder("0 1 1 0 0 0 0 0 0 0");
        list.append(" 0 1 -1 -1 0 -1 0 0");
        list.append(" -1 -1 0 0");
        for (int i = 0; i < 39; i++) {
            list.append(" -1");
        }
        list.append(" 3 -1 -1 -1 1 ").append(Double.doubleToLongBits(1.0));
        Check.due("digest() of a new object", new PackedWords().digest(), hashOf(list.toString()));

        PackedWords x = new PackedWords();
        Check.add(x, "ab");
        // the counts, the root, the leaf, the end b
        list = new StringBuilder("1 2 1 1 1 0 2 2 2 1");
        list.append(" 0 1 -1 -1 1 -1 1 1 2 2 0 1 0 0 0 1 0 1 1 2");
        // find, longest, beginning, ahead, the words
        list.append(" 2 2 1 0 1 2 0");
        for (int i = 0; i < 10 + 26; i++) {
            list.append(" -1");
        }
        list.append(" 1 -1 -1 -1 2 ").append(Double.doubleToLongBits(2.0 / 3.0)).append(" 1 2");
        Check.due("digest() with ab", x.digest(), hashOf(list.toString()));
    }

    private static long hashOf(String list) {
        long hash = 2801;
        for (String value : list.split(" ")) {
            hash = 31 * hash + Long.parseLong(value);
        }
        return hash;
    }

    private static void digestTellsStatesApart() {
        PackedWords x = new PackedWords();
        long before = x.digest();
        x.append(1);
        long withLetter = x.digest();
        Check.due("the buffer counts (1 yes)", before != withLetter ? 1 : 0, 1);
        x.add();
        long withWord = x.digest();
        Check.due("the words count (1 yes)", withWord != withLetter ? 1 : 0, 1);
        x.remove();
        Check.due("saved states count (1 yes)", x.digest() != withLetter ? 1 : 0, 1);
        x.undo();
        Check.due("back again", x.digest(), withWord);
        x.undo();
        Check.due("back again", x.digest(), withLetter);
    }

    private static void looksChangeNothing() {
        PackedWords x = new PackedWords();
        Check.add(x, "abc");
        Check.add(x, "abd");
        Check.type(x, "abde");
        long before = x.digest();
        x.ifAdded(0);
        x.ifAdded(3);
        x.ifPacked();
        x.fullness();
        x.find();
        x.longest();
        x.beginning();
        x.ahead();
        x.word(1, 2);
        x.count(4);
        x.digest();
        Check.due("digest() after looks", x.digest(), before);
        Check.due("states", x.count(9), 2);
    }
}
