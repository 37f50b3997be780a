import java.util.ArrayList;
import java.util.List;
import java.util.function.ToLongFunction;

/**
 * Runs PackedWords beside PlainTable through the 512 calls of an object. The digest is compared after each step; all
 * looks are compared now and then, on objects to which the run's calls so far are made again, for no object has calls
 * enough for them.
 */
public final class ModelTest {
    private static final int RUNS = 600;
    /** A run ends with this many of its 512 calls left over: no step needs so many, and looks have some left then. */
    private static final int LEFT_OVER = 50;

    /**
     * Of the runs' words: how many letters they are made of, the shortest word's length, the longest one's, and how many
     * letters of one are often left out for the next one.
     */
    private static final int[][] KINDS = {{8, 1, 3, 1}, {3, 1, 4, 1}, {8, 5, 5, 4}, {2, 12, 12, 1}, {5, 1, 3, 1},
        {4, 9, 12, 1}};

    private final Words x = new Words();
    /** The calls so far that are no looks and threw nothing: all that made the state. */
    private final List<ToLongFunction<Words>> made = new ArrayList<>();
    private PlainTable table = new PlainTable();
    private final List<PlainTable> saved = new ArrayList<>();
    private String buffer = "";
    private int[] kind;
    private long seed;
    private String run = "";

    private static int refusedForCells = 0;
    private static int refusedForEnds = 0;
    private static int packsRefused = 0;
    private static int packs = 0;
    private static int full = 0;

    public static void main(String[] args) {
        for (int run = 0; run < RUNS && !Check.tooManyWrong(); run++) {
            new ModelTest().go(run);
        }
        meant("a rival moved", PlainTable.rivalMoved);
        meant("the cell itself moved", PlainTable.selfMoved);
        meant("a cell moved with its parent's children", PlainTable.carriedAlong);
        meant("a child's cell was beyond the table", PlainTable.beyondTable);
        meant("a rival could not move", PlainTable.rivalStuck);
        meant("a word was refused for cells", refusedForCells);
        meant("a word was refused for ends", refusedForEnds);
        meant("packing was refused", packsRefused);
        meant("packing was done", packs);
        meant("a seventh state was saved", full);
        Check.finish("ModelTest");
    }

    private static void meant(String what, int times) {
        Check.due(what + " in some run (1 yes)", times > 0 ? 1 : 0, 1);
    }

    private int next(int bound) {
        seed = seed * 6364136223846793005L + 1442695040888963407L;
        return (int) ((seed >>> 33) % bound);
    }

    private void go(int number) {
        seed = number * 7919L + 17;
        kind = KINDS[number % KINDS.length];
        // two of three runs only fill their tables at first
        int filling = 225 * (number / KINDS.length % 3);
        for (int step = 0; x.callsLeft() >= LEFT_OVER && !Check.tooManyWrong(); step++) {
            run = "run " + number + ", step " + step + ": ";
            boolean fills = x.callsLeft() > 512 - filling;
            step(fills ? 0 : next(60));
            if (!fills || step % 4 == 0) {
                compare(next(12) == 0 || x.callsLeft() < LEFT_OVER);
            }
        }
    }

    private void step(int way) {
        if (way < 40) {
            type(next(12) == 0 ? any() : near());
            add();
        } else if (way < 49) {
            type(known());
            remove();
        } else if (way == 49) {
            typeStart();
            removeAll();
        } else if (way < 53) {
            pack();
        } else if (way < 56) {
            undo();
        } else {
            typeStart();
        }
    }

    private void change(String call, ToLongFunction<Words> it, long want) {
        String where = run + call + " with \"" + buffer + "\"";
        try {
            Check.due(where, it.applyAsLong(x), want);
            made.add(it);
        } catch (RuntimeException e) {
            Check.fail(where + " threw " + e + ", due is " + want);
        }
    }

    private void thrown(String call, Check.Call it, Class<?> want) {
        Check.dueThrow(run + call + " with \"" + buffer + "\"", it, want);
    }

    // ---- the buffer

    private String any() {
        return withLetters("");
    }

    /** A word that begins as the buffer does: few calls make long ways in the table so. */
    private String near() {
        String word = buffer;
        for (int tries = 0; tries < 9 && (word.equals(buffer) || table.words.contains(word)); tries++) {
            int dropped = next(2) == 0 ? 1 + next(12) : kind[3];
            word = withLetters(buffer.substring(0, Math.max(0, buffer.length() - dropped)));
        }
        return word;
    }

    private String withLetters(String start) {
        int length = Math.max(start.length() + 1, kind[1] + next(kind[2] - kind[1] + 1));
        StringBuilder word = new StringBuilder(start);
        while (word.length() < Math.min(length, 12)) {
            word.append((char) ('1' + next(kind[0])));
        }
        return word.toString();
    }

    private String known() {
        List<String> words = new ArrayList<>(table.words);
        return words.isEmpty() ? "" : words.get(next(words.size()));
    }

    private void type(String word) {
        int half = buffer.length() / 2;
        if (!word.startsWith(buffer.substring(0, half)) || next(20) == 0) {
            clear();
        }
        while (!word.startsWith(buffer)) {
            drop();
        }
        for (char letter : word.substring(buffer.length()).toCharArray()) {
            append(letter - '0');
        }
    }

    private void typeStart() {
        type(next(3) == 0 ? any() : known());
        if (next(3) == 0) {
            append(1 + next(kind[0]));
        }
        for (int dropped = next(4); dropped > 0; dropped--) {
            drop();
        }
    }

    private void append(int letter) {
        if (buffer.length() == 12) {
            thrown("append(" + letter + ")", () -> x.append(letter), IllegalStateException.class);
        } else {
            change("append(" + letter + ")", words -> words.append(letter), buffer.length() + 1);
            buffer = buffer + letter;
        }
    }

    private void clear() {
        change("clearBuffer()", Words::clearBuffer, buffer.length());
        buffer = "";
    }

    private void drop() {
        if (buffer.isEmpty()) {
            thrown("drop()", x::drop, IllegalStateException.class);
        } else {
            change("drop()", Words::drop, buffer.charAt(buffer.length() - 1) - '0');
            buffer = buffer.substring(0, buffer.length() - 1);
        }
    }

    // ---- words

    private void save(PlainTable state) {
        saved.add(state);
        if (saved.size() > 6) {
            saved.remove(0);
            full++;
        }
    }

    /** Answers the table with the buffer's word added, null if it is refused. */
    private PlainTable withBuffer() {
        PlainTable copy = table.copy();
        try {
            copy.add(buffer);
            return copy;
        } catch (PlainTable.Refused e) {
            refusedForCells += e.forCells ? 1 : 0;
            refusedForEnds += e.forCells ? 0 : 1;
            return null;
        }
    }

    private PlainTable packed() {
        try {
            return table.packed();
        } catch (PlainTable.Refused e) {
            return null;
        }
    }

    private void add() {
        if (buffer.isEmpty()) {
            thrown("add()", x::add, IllegalArgumentException.class);
            return;
        }
        PlainTable added = table.words.contains(buffer) ? null : withBuffer();
        if (added == null) {
            thrown("add()", x::add, IllegalStateException.class);
            return;
        }
        save(table);
        table = added;
        change("add()", Words::add, table.leafOf(buffer).number);
    }

    private void remove() {
        if (buffer.isEmpty()) {
            thrown("remove()", x::remove, IllegalArgumentException.class);
        } else if (!table.words.contains(buffer)) {
            thrown("remove()", x::remove, IllegalStateException.class);
        } else {
            save(table.copy());
            change("remove()", Words::remove, table.remove(buffer));
        }
    }

    private void removeAll() {
        save(table.copy());
        List<String> words = table.wordsWith(buffer);
        for (String word : words) {
            table.remove(word);
        }
        change("removeAll()", Words::removeAll, words.size());
    }

    private void pack() {
        PlainTable packed = packed();
        if (packed == null) {
            packsRefused++;
            thrown("pack()", x::pack, IllegalStateException.class);
            return;
        }
        packs++;
        save(table);
        change("pack()", Words::pack, table.count(1) - packed.count(1) + 1000);
        table = packed;
    }

    private void undo() {
        if (saved.isEmpty()) {
            thrown("undo()", x::undo, IllegalStateException.class);
            return;
        }
        table = saved.remove(saved.size() - 1);
        change("undo()", Words::undo, saved.size());
    }

    // ---- comparing

    private long hash;
    /** Where the looks are asked for; null while the digest alone is reckoned. */
    private State state = null;

    /** An object to which the calls so far are made again. */
    private Words again() {
        Words words = new Words();
        for (ToLongFunction<Words> call : made) {
            call.applyAsLong(words);
        }
        return words;
    }

    /** Goes through the digest's list to reckon it; asks for each look too if it was wrong, or all are to be asked for. */
    private void compare(boolean all) {
        state = null;
        goThroughTheList();
        long got = x.digest();
        Check.due(run + "digest() with \"" + buffer + "\"", got, hash);
        if (all || got != hash) {
            state = new State(this::again);
            goThroughTheList();
            goThroughTheRest();
        }
    }

    private void same(String call, ToLongFunction<Words> it, long want) {
        hash = 31 * hash + want;
        if (state != null) {
            Check.due(run + call + " with \"" + buffer + "\"", it.applyAsLong(state.look()), want);
        }
    }

    private void goThroughTheList() {
        hash = 2801;
        for (int what = 0; what <= 7; what++) {
            compareCount(what, table.count(what));
        }
        compareCount(8, buffer.length());
        compareCount(9, saved.size());
        for (int cell = 0; cell < 160; cell++) {
            if (table.cells[cell] != null) {
                hash = 31 * hash + cell;
                compareCell(cell);
            }
        }
        for (int place = 0; place < 40; place++) {
            if (table.uses[place] > 0) {
                hash = 31 * hash + place;
                compareEnd(place, table.ends[place]);
            }
        }
        compareLooks();
        compareWords(0, 2);
        compareForecasts();
        for (char letter : buffer.toCharArray()) {
            hash = 31 * hash + (letter - '0');
        }
    }

    /** What the digest leaves out: free cells and places, what stands behind the ends, the words behind the third. */
    private void goThroughTheRest() {
        for (int cell = 0; cell < 160; cell++) {
            if (table.cells[cell] == null) {
                compareCell(cell);
            }
        }
        for (int place = 0; place < 40; place++) {
            if (table.uses[place] == 0) {
                compareEnd(place, null);
            }
            for (int at = table.uses[place] == 0 ? 0 : table.ends[place].length(); at < 12; at++) {
                compareLetter(place, at, -1);
            }
        }
        compareWords(3, table.words.size() + 1);
    }

    private void compareCount(int what, int want) {
        same("count(" + what + ")", words -> words.count(what), want);
    }

    private void compareCell(int cell) {
        for (int what = 0; what <= 6; what++) {
            int property = what;
            same("cell(" + cell + ", " + what + ")", words -> words.cell(cell, property), table.property(cell, what));
        }
    }

    /** Without an end the place is due to be free. */
    private void compareEnd(int place, String end) {
        same("end(" + place + ", 0)", words -> words.end(place, 0), table.uses[place]);
        same("end(" + place + ", 1)", words -> words.end(place, 1), end == null ? -1 : end.length());
        for (int at = 0; end != null && at < end.length(); at++) {
            compareLetter(place, at, end.charAt(at) - '0');
        }
    }

    private void compareLetter(int place, int at, int want) {
        same("letter(" + place + ", " + at + ")", words -> words.letter(place, at), want);
    }

    private void compareLooks() {
        int longest = -1;
        for (int length = 1; length <= buffer.length(); length++) {
            longest = table.words.contains(buffer.substring(0, length)) ? length : longest;
        }
        PlainTable.Cell leaf = table.leafOf(buffer);
        same("find()", Words::find, leaf == null ? -1 : leaf.number);
        same("longest()", Words::longest, longest);
        same("beginning()", Words::beginning, table.wordsWith(buffer).size());
        same("ahead()", Words::ahead, table.words.headSet(buffer, false).size());
    }

    private void compareWords(int firstRank, int lastRank) {
        List<String> all = new ArrayList<>(table.words);
        for (int rank = firstRank; rank <= lastRank; rank++) {
            String word = rank < all.size() ? all.get(rank) : null;
            for (int at = 0; at <= 12; at++) {
                compareWord(rank, at, word);
            }
        }
    }

    private void compareWord(int rank, int at, String word) {
        int want = word == null || at > word.length() ? -1 : at == word.length() ? 0 : word.charAt(at) - '0';
        same("word(" + rank + ", " + at + ")", words -> words.word(rank, at), want);
    }

    private void compareForecasts() {
        boolean there = table.words.contains(buffer);
        PlainTable added = buffer.isEmpty() || there ? null : withBuffer();
        int outcome = buffer.isEmpty() ? 3 : there ? 1 : added == null ? 2 : 0;
        same("ifAdded(0)", words -> words.ifAdded(0), outcome);
        same("ifAdded(1)", words -> words.ifAdded(1), added == null ? -1 : added.count(1) - table.count(1));
        same("ifAdded(2)", words -> words.ifAdded(2), added == null ? -1 : added.moved - table.moved);
        same("ifAdded(3)", words -> words.ifAdded(3), added == null ? -1 : added.count(3) - table.count(3) + 100);
        PlainTable packed = packed();
        same("ifPacked()", Words::ifPacked, packed == null ? -1 : packed.count(1));
        double full = (double) table.count(1) / (table.count(6) + 1);
        same("the bits of fullness()", words -> Double.doubleToLongBits(words.fullness()), Double.doubleToLongBits(full));
    }
}
