import java.util.ArrayList;
import java.util.List;
import java.util.Map;
import java.util.TreeMap;
import java.util.TreeSet;

/**
 * The document's table once more, in objects and without any thrift, to compare PackedWords with.
 * Words are texts of '1' to '8', so that their order is that of String; '0' is the end of a word.
 */
final class PlainTable {
    static final class Cell {
        int number;
        Cell parent;
        char letter;
        int offset;
        boolean leaf;
        String end;
        final TreeMap<Character, Cell> children = new TreeMap<>();
    }

    static final class Refused extends Exception {
        private static final long serialVersionUID = 1L;
        final boolean forCells;

        Refused(boolean forCells) {
            this.forCells = forCells;
        }
    }

    final Cell[] cells = new Cell[160];
    final String[] ends = new String[40];
    final int[] uses = new int[40];
    final TreeSet<String> words = new TreeSet<>();
    int moved = 0;

    /** How often the rarer ways of adding were gone, so that a test can see that it met them. */
    static int rivalMoved = 0;
    static int selfMoved = 0;
    static int carriedAlong = 0;
    static int beyondTable = 0;
    static int rivalStuck = 0;

    PlainTable() {
        Cell root = new Cell();
        root.number = 0;
        cells[0] = root;
    }

    PlainTable copy() {
        PlainTable copy = new PlainTable();
        copy.words.addAll(words);
        copy.moved = moved;
        System.arraycopy(ends, 0, copy.ends, 0, ends.length);
        System.arraycopy(uses, 0, copy.uses, 0, uses.length);
        copy.cells[0] = copyCell(cells[0], null, copy);
        return copy;
    }

    private static Cell copyCell(Cell from, Cell parent, PlainTable into) {
        Cell cell = new Cell();
        cell.number = from.number;
        cell.parent = parent;
        cell.letter = from.letter;
        cell.offset = from.offset;
        cell.leaf = from.leaf;
        cell.end = from.end;
        into.cells[cell.number] = cell;
        for (Map.Entry<Character, Cell> child : from.children.entrySet()) {
            cell.children.put(child.getKey(), copyCell(child.getValue(), cell, into));
        }
        return cell;
    }

    // ---- adding

    void add(String word) throws Refused {
        String letters = word + "0";
        Cell cell = cells[0];
        int next = 0;
        while (!cell.leaf) {
            char letter = letters.charAt(next);
            next++;
            String rest = next >= letters.length() ? "" : word.substring(next);
            if (!cell.children.containsKey(letter)) {
                putClashing(cell, letter);
                makeLeaf(cell, letter, rest);
                words.add(word);
                return;
            }
            cell = cell.children.get(letter);
        }
        split(cell, word.substring(next));
        words.add(word);
    }

    private void split(Cell leaf, String added) throws Refused {
        String old = leaf.end;
        dropUse(old);
        leaf.leaf = false;
        leaf.end = null;
        Cell cell = leaf;
        int common = 0;
        while (common < old.length() && common < added.length() && old.charAt(common) == added.charAt(common)) {
            String letter = old.substring(common, common + 1);
            cell.offset = least(letter, false);
            Cell child = new Cell();
            link(cell, letter.charAt(0), child);
            cell = child;
            common++;
        }
        String oldTail = (old + "0").substring(common);
        String newTail = (added + "0").substring(common);
        cell.offset = least(oldTail.substring(0, 1) + newTail.charAt(0), false);
        makeLeaf(cell, oldTail.charAt(0), withoutStop(oldTail.substring(1)));
        makeLeaf(cell, newTail.charAt(0), withoutStop(newTail.substring(1)));
    }

    private static String withoutStop(String tail) {
        return tail.endsWith("0") ? tail.substring(0, tail.length() - 1) : tail;
    }

    private void putClashing(Cell s, char letter) throws Refused {
        if (s.children.isEmpty()) {
            s.offset = least("" + letter, false);
            return;
        }
        int wanted = s.offset + (letter - '0');
        if (wanted <= 159 && cells[wanted] == null) {
            return;
        }
        boolean rivalMoves = false;
        Cell t = null;
        if (wanted > 159) {
            beyondTable++;
        } else {
            t = cells[wanted].parent;
            rivalMoves = t.children.size() < s.children.size() + 1;
        }
        if (rivalMoves) {
            if (s.parent == t) {
                carriedAlong++;
            }
            move(t, "", true);
            rivalMoved++;
        } else {
            move(s, "" + letter, false);
            selfMoved++;
        }
    }

    private void move(Cell parent, String extra, boolean rival) throws Refused {
        StringBuilder letters = new StringBuilder(extra);
        for (char letter : parent.children.keySet()) {
            letters.append(letter);
        }
        int to = least(letters.toString(), rival);
        for (Cell child : parent.children.values()) {
            cells[child.number] = null;
        }
        parent.offset = to;
        for (Cell child : parent.children.values()) {
            child.number = to + (child.letter - '0');
            cells[child.number] = child;
            moved++;
        }
    }

    private int least(String letters, boolean rival) throws Refused {
        for (int offset = 1; offset <= 159; offset++) {
            boolean free = true;
            for (char letter : letters.toCharArray()) {
                int cell = offset + (letter - '0');
                free = free && cell <= 159 && cells[cell] == null;
            }
            if (free) {
                return offset;
            }
        }
        if (rival) {
            rivalStuck++;
        }
        throw new Refused(true);
    }

    private void link(Cell parent, char letter, Cell child) {
        child.parent = parent;
        child.letter = letter;
        child.number = parent.offset + (letter - '0');
        cells[child.number] = child;
        parent.children.put(letter, child);
    }

    private void makeLeaf(Cell parent, char letter, String end) throws Refused {
        Cell leaf = new Cell();
        leaf.leaf = true;
        leaf.end = end;
        link(parent, letter, leaf);
        addUse(end);
    }

    private void addUse(String end) throws Refused {
        int place = placeOf(end);
        for (int i = 0; i < 40 && place < 0; i++) {
            if (uses[i] == 0) {
                place = i;
            }
        }
        if (place < 0) {
            throw new Refused(false);
        }
        ends[place] = end;
        uses[place]++;
    }

    private void dropUse(String end) {
        int place = placeOf(end);
        uses[place]--;
        if (uses[place] == 0) {
            ends[place] = null;
        }
    }

    int placeOf(String end) {
        for (int i = 0; i < 40; i++) {
            if (uses[i] > 0 && ends[i].equals(end)) {
                return i;
            }
        }
        return -1;
    }

    // ---- removing, packing

    int remove(String word) {
        Cell cell = leafOf(word);
        dropUse(cell.end);
        words.remove(word);
        int freed = 0;
        while (cell.parent != null && cell.children.isEmpty()) {
            cells[cell.number] = null;
            cell.parent.children.remove(cell.letter);
            freed++;
            cell = cell.parent;
        }
        if (cell.children.isEmpty()) {
            cell.offset = 0;
        }
        return freed;
    }

    PlainTable packed() throws Refused {
        PlainTable anew = new PlainTable();
        anew.moved = moved;
        for (String word : words) {
            anew.add(word);
        }
        return anew;
    }

    // ---- looks

    Cell leafOf(String word) {
        if (!words.contains(word)) {
            return null;
        }
        Cell cell = cells[0];
        String letters = word + "0";
        for (int i = 0; !cell.leaf; i++) {
            cell = cell.children.get(letters.charAt(i));
        }
        return cell;
    }

    List<String> wordsWith(String start) {
        List<String> found = new ArrayList<>();
        for (String word : words) {
            if (word.startsWith(start)) {
                found.add(word);
            }
        }
        return found;
    }

    int wordsBelow(Cell cell) {
        if (cell.leaf) {
            return 1;
        }
        int sum = 0;
        for (Cell child : cell.children.values()) {
            sum += wordsBelow(child);
        }
        return sum;
    }

    int property(int number, int what) {
        Cell cell = cells[number];
        if (cell == null) {
            return what == 1 || what == 2 || what == 4 ? -1 : 0;
        }
        switch (what) {
            case 0:
                return cell.leaf ? 2 : 1;
            case 1:
                return cell.parent == null ? -1 : cell.parent.number;
            case 2:
                return cell.parent == null ? -1 : cell.letter - '0';
            case 3:
                return cell.leaf ? 0 : cell.offset;
            case 4:
                return cell.leaf ? placeOf(cell.end) : -1;
            case 5:
                return cell.children.size();
            default:
                return wordsBelow(cell);
        }
    }

    int count(int what) {
        int used = 0;
        int inner = 0;
        int greatest = 0;
        for (Cell cell : cells) {
            if (cell != null) {
                used++;
                inner += cell.leaf ? 0 : 1;
                greatest = cell.number;
            }
        }
        int kept = 0;
        int endLetters = 0;
        for (int place = 0; place < 40; place++) {
            if (uses[place] > 0) {
                kept++;
                endLetters += ends[place].length();
            }
        }
        int wordLetters = 0;
        for (String word : words) {
            wordLetters += word.length();
        }
        int[] numbers = {words.size(), used, inner, kept, endLetters, moved, greatest, wordLetters};
        return numbers[what];
    }
}
