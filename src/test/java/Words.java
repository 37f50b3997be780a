/**
 * A PackedWords whose buffer is known, so that a word is typed with few calls, and whose calls are counted: a test that
 * goes beyond the 512 calls that the document promises is not as due.
 */
final class Words {
    private static final int CALLS = 512;

    private final PackedWords x = new PackedWords();
    private final StringBuilder buffer = new StringBuilder();
    private int calls = 0;

    private PackedWords call() {
        calls++;
        if (calls == CALLS + 1) {
            Check.fail("goes beyond the " + CALLS + "th call of an object");
        }
        return x;
    }

    int callsLeft() {
        return CALLS - calls;
    }

    // ---- whole words

    /** Puts the word, told by its letters such as "abc", into the buffer. */
    void type(String word) {
        int same = 0;
        while (same < Math.min(word.length(), buffer.length()) && word.charAt(same) == buffer.charAt(same)) {
            same++;
        }
        if (1 + same < buffer.length() - same) {
            clearBuffer();
        }
        while (buffer.length() > same) {
            drop();
        }
        for (int i = buffer.length(); i < word.length(); i++) {
            append(word.charAt(i) - 'a' + 1);
        }
    }

    int add(String word) {
        type(word);
        return add();
    }

    int remove(String word) {
        type(word);
        return remove();
    }

    int find(String word) {
        type(word);
        return find();
    }

    /** Words with a "-" ahead are removed, the others added. */
    Words with(String... words) {
        for (String word : words) {
            if (word.startsWith("-")) {
                remove(word.substring(1));
            } else {
                add(word);
            }
        }
        return this;
    }

    /** Answers the word of the rank, "" if there is none. */
    String wordAt(int rank) {
        StringBuilder text = new StringBuilder();
        int letter = word(rank, 0);
        for (int at = 1; at <= 12 && letter > 0; at++) {
            text.append((char) ('a' + letter - 1));
            letter = word(rank, at);
        }
        return text.toString();
    }

    void dueWords(String when, String... words) {
        Check.due(when + ": count(0)", count(0), words.length);
        for (int rank = 0; rank < words.length; rank++) {
            Check.dueText(when + ": the word of rank " + rank, wordAt(rank), words[rank]);
        }
    }

    /** Asks for the cell's first properties. */
    void dueCell(String when, int cell, int... properties) {
        for (int what = 0; what < properties.length; what++) {
            Check.due(when + ": cell(" + cell + ", " + what + ")", cell(cell, what), properties[what]);
        }
    }

    /** The numbers of the free cells, such as "1 153 154". */
    String freeCells() {
        StringBuilder text = new StringBuilder();
        for (int cell = 0; cell < 160; cell++) {
            if (cell(cell, 0) == 0) {
                text.append(text.length() == 0 ? "" : " ").append(cell);
            }
        }
        return text.toString();
    }

    // ---- the face

    int append(int letter) {
        int length = call().append(letter);
        buffer.append((char) ('a' + letter - 1));
        return length;
    }

    int clearBuffer() {
        buffer.setLength(0);
        return call().clearBuffer();
    }

    int drop() {
        int letter = call().drop();
        buffer.setLength(Math.max(0, buffer.length() - 1));
        return letter;
    }

    int add() {
        return call().add();
    }

    int remove() {
        return call().remove();
    }

    int removeAll() {
        return call().removeAll();
    }

    int pack() {
        return call().pack();
    }

    int undo() {
        return call().undo();
    }

    int cell(int cell, int what) {
        return call().cell(cell, what);
    }

    int end(int place, int what) {
        return call().end(place, what);
    }

    int letter(int place, int at) {
        return call().letter(place, at);
    }

    int count(int what) {
        return call().count(what);
    }

    int find() {
        return call().find();
    }

    int longest() {
        return call().longest();
    }

    int beginning() {
        return call().beginning();
    }

    int ahead() {
        return call().ahead();
    }

    int word(int rank, int at) {
        return call().word(rank, at);
    }

    int ifAdded(int what) {
        return call().ifAdded(what);
    }

    int ifPacked() {
        return call().ifPacked();
    }

    double fullness() {
        return call().fullness();
    }

    long digest() {
        return call().digest();
    }
}
