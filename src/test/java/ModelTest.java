import java.util.ArrayList;
import java.util.List;

/**
 * Runs PackedWords beside PlainTable through many calls and compares every look after each. That takes more than the 512
 * calls that are promised; the class does not count them.
 */
public final class ModelTest {
    private PackedWords x = new PackedWords();
    private PlainTable table = new PlainTable();
    private final List<PlainTable> saved = new ArrayList<>();
    private String buffer = "";
    private long seed;
    private String run = "";

    private static int refusedForCells = 0;
    private static int refusedForEnds = 0;
    private static int packsRefused = 0;
    private static int packs = 0;
    private static int full = 0;

    public static void main(String[] args) {
        for (int run = 0; run < 150 && !Check.tooManyWrong(); run++) {
            new ModelTest().go(run);
        }
        meant("a rival moved", PlainTable.rivalMoved);
        meant("the cell itself moved", PlainTable.selfMoved);
        meant("a cell moved with its parent's children", PlainTable.carriedAlong);
        meant("a child's cell was beyond the table", PlainTable.beyondTable);
        meant("a rival could not move", PlainTable.rivalStuck);
        meant("a word was refused for cells", refusedForCells);
        meant("a word was refused for ends", refusedForEnds);
        meant("packing was refused", packsRefused);
        meant("packing was done", packs);
        meant("a seventh state was saved", full);
        Check.finish("ModelTest");
    }

    private static void meant(String what, int times) {
        Check.due(what + " in some run (1 yes)", times > 0 ? 1 : 0, 1);
    }

    private int next(int bound) {
        seed = seed * 6364136223846793005L + 1442695040888963407L;
        return (int) ((seed >>> 33) % bound);
    }

    private void go(int number) {
        seed = number * 7919L + 17;
        int[] alphabets = {8, 3, 8, 2, 5, 8};
        int[] lengths = {3, 4, 6, 12, 3, 10};
        int letters = alphabets[number % 6];
        int longest = lengths[number % 6];
        // every other run only fills its table at first
        int filling = number % 2 == 0 ? 0 : 200;
        int steps = filling + 60 + 20 * (number % 9);
        for (int step = 0; step < steps && !Check.tooManyWrong(); step++) {
            run = "run " + number + ", step " + step + ": ";
            int kind = step < filling ? 0 : next(60);
            if (kind < 40) {
                type(letters, longest);
                add();
            } else if (kind < 49) {
                typeKnown();
                remove();
            } else if (kind == 49) {
                typeStart(letters, longest);
                removeAll();
            } else if (kind < 53) {
                pack();
            } else if (kind < 56) {
                undo();
            } else {
                typeStart(letters, longest);
            }
            compare(step % 6 == 0 || step > steps - 3);
        }
    }

    // ---- the buffer

    private void type(int letters, int longest) {
        clear();
        int length = 1 + next(longest);
        for (int i = 0; i < length; i++) {
            append(1 + next(letters));
        }
    }

    private void typeKnown() {
        clear();
        if (!table.words.isEmpty()) {
            String word = new ArrayList<>(table.words).get(next(table.words.size()));
            for (char letter : word.toCharArray()) {
                append(letter - '0');
            }
        }
    }

    private void typeStart(int letters, int longest) {
        typeKnown();
        int way = next(3);
        if (way == 0) {
            type(letters, longest);
        } else if (way == 1) {
            append(1 + next(letters));
        }
        for (int dropped = next(4); dropped > 0; dropped--) {
            drop();
        }
    }

    private void append(int letter) {
        if (buffer.length() == 12) {
            Check.dueThrow(run + "append(" + letter + ")", () -> x.append(letter), IllegalStateException.class);
        } else {
            buffer = buffer + letter;
            Check.due(run + "append(" + letter + ")", x.append(letter), buffer.length());
        }
    }

    private void clear() {
        Check.due(run + "clearBuffer()", x.clearBuffer(), buffer.length());
        buffer = "";
    }

    private void drop() {
        if (buffer.isEmpty()) {
            Check.dueThrow(run + "drop()", () -> x.drop(), IllegalStateException.class);
        } else {
            Check.due(run + "drop()", x.drop(), buffer.charAt(buffer.length() - 1) - '0');
            buffer = buffer.substring(0, buffer.length() - 1);
        }
    }

    // ---- words

    private void save(PlainTable state) {
        saved.add(state);
        if (saved.size() > 6) {
            saved.remove(0);
            full++;
        }
    }

    /** Answers the table with the buffer's word added, null if it is refused. */
    private PlainTable withBuffer() {
        PlainTable copy = table.copy();
        try {
            copy.add(buffer);
            return copy;
        } catch (PlainTable.Refused e) {
            refusedForCells += e.forCells ? 1 : 0;
            refusedForEnds += e.forCells ? 0 : 1;
            return null;
        }
    }

    private PlainTable packed() {
        try {
            return table.packed();
        } catch (PlainTable.Refused e) {
            return null;
        }
    }

    private void add() {
        if (buffer.isEmpty()) {
            Check.dueThrow(run + "add()", () -> x.add(), IllegalArgumentException.class);
            return;
        }
        PlainTable added = table.words.contains(buffer) ? null : withBuffer();
        if (added == null) {
            Check.dueThrow(run + "add()", () -> x.add(), IllegalStateException.class);
            return;
        }
        save(table);
        table = added;
        Check.due(run + "add()", x.add(), table.leafOf(buffer).number);
    }

    private void remove() {
        if (buffer.isEmpty()) {
            Check.dueThrow(run + "remove()", () -> x.remove(), IllegalArgumentException.class);
        } else if (!table.words.contains(buffer)) {
            Check.dueThrow(run + "remove()", () -> x.remove(), IllegalStateException.class);
        } else {
            save(table.copy());
            Check.due(run + "remove()", x.remove(), table.remove(buffer));
        }
    }

    private void removeAll() {
        save(table.copy());
        List<String> words = table.wordsWith(buffer);
        for (String word : words) {
            table.remove(word);
        }
        Check.due(run + "removeAll()", x.removeAll(), words.size());
    }

    private void pack() {
        PlainTable packed = packed();
        if (packed == null) {
            packsRefused++;
            Check.dueThrow(run + "pack()", () -> x.pack(), IllegalStateException.class);
            return;
        }
        packs++;
        save(table);
        Check.due(run + "pack()", x.pack(), table.count(1) - packed.count(1) + 1000);
        table = packed;
    }

    private void undo() {
        if (saved.isEmpty()) {
            Check.dueThrow(run + "undo()", () -> x.undo(), IllegalStateException.class);
            return;
        }
        table = saved.remove(saved.size() - 1);
        Check.due(run + "undo()", x.undo(), saved.size());
    }

    // ---- comparing

    private long hash;

    private void same(String call, long got, long want) {
        Check.due(run + call + " with \"" + buffer + "\"", got, want);
        hash = 31 * hash + want;
    }

    /** Goes through the digest's list, call by call, and sees at its end whether the digest is that of the answers. */
    private void compare(boolean all) {
        hash = 2801;
        for (int what = 0; what <= 7; what++) {
            same("count(" + what + ")", x.count(what), table.count(what));
        }
        same("count(8)", x.count(8), buffer.length());
        same("count(9)", x.count(9), saved.size());
        compareCells();
        compareEnds();
        compareLooks();
        compareWords(2, true);
        compareForecasts();
        Check.due(run + "digest()", x.digest(), hash);
        if (all) {
            compareWords(table.words.size() + 1, false);
        }
    }

    private void compareCells() {
        for (int cell = 0; cell < 160; cell++) {
            boolean used = table.cells[cell] != null;
            long before = hash;
            same("the cell", cell, cell);
            for (int what = 0; what <= 6; what++) {
                same("cell(" + cell + ", " + what + ")", x.cell(cell, what), table.property(cell, what));
            }
            hash = used ? hash : before;
        }
    }

    private void compareEnds() {
        for (int place = 0; place < 40; place++) {
            boolean kept = table.uses[place] > 0;
            int length = kept ? table.ends[place].length() : 0;
            long before = hash;
            same("the place", place, place);
            same("end(" + place + ", 0)", x.end(place, 0), table.uses[place]);
            same("end(" + place + ", 1)", x.end(place, 1), kept ? length : -1);
            for (int at = 0; at < length; at++) {
                same("letter(" + place + ", " + at + ")", x.letter(place, at), table.ends[place].charAt(at) - '0');
            }
            for (int at = length; at < 12; at++) {
                Check.due(run + "letter(" + place + ", " + at + ")", x.letter(place, at), -1);
            }
            hash = kept ? hash : before;
        }
    }

    private void compareLooks() {
        int longest = -1;
        for (int length = 1; length <= buffer.length(); length++) {
            longest = table.words.contains(buffer.substring(0, length)) ? length : longest;
        }
        PlainTable.Cell leaf = table.leafOf(buffer);
        same("find()", x.find(), leaf == null ? -1 : leaf.number);
        same("longest()", x.longest(), longest);
        same("beginning()", x.beginning(), table.wordsWith(buffer).size());
        same("ahead()", x.ahead(), table.words.headSet(buffer, false).size());
    }

    private void compareWords(int lastRank, boolean inDigest) {
        List<String> words = new ArrayList<>(table.words);
        for (int rank = 0; rank <= lastRank; rank++) {
            String word = rank < words.size() ? words.get(rank) : null;
            for (int at = 0; at <= 12; at++) {
                int want = word == null || at > word.length() ? -1 : at == word.length() ? 0 : word.charAt(at) - '0';
                if (inDigest) {
                    same("word(" + rank + ", " + at + ")", x.word(rank, at), want);
                } else {
                    Check.due(run + "word(" + rank + ", " + at + ")", x.word(rank, at), want);
                }
            }
        }
    }

    private void compareForecasts() {
        boolean there = table.words.contains(buffer);
        PlainTable added = buffer.isEmpty() || there ? null : withBuffer();
        int outcome = buffer.isEmpty() ? 3 : there ? 1 : added == null ? 2 : 0;
        same("ifAdded(0)", x.ifAdded(0), outcome);
        same("ifAdded(1)", x.ifAdded(1), added == null ? -1 : added.count(1) - table.count(1));
        same("ifAdded(2)", x.ifAdded(2), added == null ? -1 : added.moved - table.moved);
        same("ifAdded(3)", x.ifAdded(3), added == null ? -1 : added.count(3) - table.count(3) + 100);
        PlainTable packed = packed();
        same("ifPacked()", x.ifPacked(), packed == null ? -1 : packed.count(1));
        double full = (double) table.count(1) / (table.count(6) + 1);
        Check.dueDouble(run + "fullness()", x.fullness(), full);
        hash = 31 * hash + Double.doubleToLongBits(full);
        for (char letter : buffer.toCharArray()) {
            hash = 31 * hash + (letter - '0');
        }
    }
}
