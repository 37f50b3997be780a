import java.util.Arrays;

/** Words packed into one table of cells; what each call does is promised in DOC.md. */
public final class PackedWords {
    public static final int NONE = -1;

    private static final int CELLS = 160;
    private static final int ROOT = 0;
    private static final int FREE = 0;
    private static final int INNER = 1;
    private static final int LEAF = 2;
    private static final int PLACES = 40;
    private static final int LETTERS = 8;
    private static final int LONGEST = 12;
    /** Inner cells stand behind letters that two words had in common, so a leaf is at most twelve letters deep. */
    private static final int DEEPEST = LONGEST;
    private static final int STATES = 6;

    private static final int WOULD_BE_ADDED = 0;
    private static final int IS_THERE = 1;
    private static final int IS_REFUSED = 2;
    private static final int BUFFER_IS_EMPTY = 3;

    private final Table table;
    /** Changes that may be refused are tried here, so that a refusal changes nothing. */
    private final Table trial;
    /** From the oldest saved state to the latest; the rows behind them wait for their use. */
    private final Table[] saved;
    private int savedStates;
    private long buffer;
    private int bufferLength;

    public PackedWords() {
        table = new Table();
        trial = new Table();
        saved = new Table[STATES];
        for (int i = 0; i < saved.length; i++) {
            saved[i] = new Table();
        }
        savedStates = 0;
        buffer = 0;
        bufferLength = 0;
    }

    // ---- the buffer

    public int append(int letter) throws IllegalArgumentException, IllegalStateException {
        if (letter < 1 || letter > LETTERS) {
            throw new IllegalArgumentException("a letter is 1 to 8");
        }
        if (bufferLength >= LONGEST) {
            throw new IllegalStateException("the buffer is full");
        }
        buffer = Texts.withLetter(buffer, bufferLength, letter);
        bufferLength++;
        return bufferLength;
    }

    public int clearBuffer() {
        int length = bufferLength;
        buffer = 0;
        bufferLength = 0;
        return length;
    }

    public int drop() throws IllegalStateException {
        if (bufferLength <= 0) {
            throw new IllegalStateException("the buffer is empty");
        }
        bufferLength--;
        int letter = Texts.letterAt(buffer, bufferLength);
        buffer = Texts.startOf(buffer, bufferLength);
        return letter;
    }

    // ---- words

    public int add() throws IllegalArgumentException, IllegalStateException {
        int outcome = tryToAdd();
        if (outcome == BUFFER_IS_EMPTY) {
            throw new IllegalArgumentException("the buffer is empty");
        }
        if (outcome == IS_THERE) {
            throw new IllegalStateException("the word is there already");
        }
        if (outcome == IS_REFUSED) {
            throw new IllegalStateException("the word is refused");
        }
        saveState();
        table.copyFrom(trial);
        return table.leafOf(buffer);
    }

    public int remove() throws IllegalArgumentException, IllegalStateException {
        if (bufferLength == 0) {
            throw new IllegalArgumentException("the buffer is empty");
        }
        int leaf = table.leafOf(buffer);
        if (leaf == NONE) {
            throw new IllegalStateException("the word is not there");
        }
        saveState();
        return table.freeLeaf(leaf);
    }

    public int removeAll() {
        saveState();
        int words = table.wordsWith(buffer);
        int rank = table.wordsAhead(buffer);
        // the words with one beginning stand side by side, so the next one comes to the same rank
        for (int i = 0; i < words; i++) {
            table.freeLeaf(table.leafOf(table.wordAt(rank)));
        }
        return words;
    }

    public int pack() throws IllegalStateException {
        int packed = trial.packFrom(table);
        if (packed == NONE) {
            throw new IllegalStateException("a word would be refused");
        }
        int fewer = table.usedCells() - packed;
        saveState();
        table.copyFrom(trial);
        return fewer + 1000;
    }

    public int undo() throws IllegalStateException {
        if (savedStates <= 0 || savedStates > saved.length) {
            throw new IllegalStateException("no state is saved");
        }
        savedStates--;
        Table latest = saved[savedStates];
        if (latest != null) {
            table.copyFrom(latest);
        }
        return savedStates;
    }

    // ---- looks; nothing is changed

    public int cell(int cell, int what) throws IndexOutOfBoundsException, IllegalArgumentException {
        if (cell < 0 || cell >= CELLS) {
            throw new IndexOutOfBoundsException("there is no such cell");
        }
        if (what < 0 || what > 6) {
            throw new IllegalArgumentException("what is 0 to 6");
        }
        return table.propertyOf(cell, what);
    }

    public int end(int place, int what) throws IndexOutOfBoundsException, IllegalArgumentException {
        if (place < 0 || place >= PLACES) {
            throw new IndexOutOfBoundsException("there is no such place");
        }
        if (what < 0 || what > 1) {
            throw new IllegalArgumentException("what is 0 or 1");
        }
        int uses = table.ends.usesOf(place);
        if (what == 0) {
            return uses;
        }
        return uses == 0 ? NONE : Texts.lengthOf(table.ends.textAt(place));
    }

    public int letter(int place, int at) throws IndexOutOfBoundsException, IllegalArgumentException {
        if (place < 0 || place >= PLACES) {
            throw new IndexOutOfBoundsException("there is no such place");
        }
        if (at < 0 || at >= LONGEST) {
            throw new IllegalArgumentException("at is 0 to 11");
        }
        int letter = Texts.letterAt(table.ends.textAt(place), at);
        return letter == 0 ? NONE : letter;
    }

    public int count(int what) throws IllegalArgumentException {
        switch (what) {
            case 0:
                return table.words();
            case 1:
                return table.usedCells();
            case 2:
                return table.innerCells();
            case 3:
                return table.ends.kept();
            case 4:
                return table.ends.letters();
            case 5:
                return table.moved;
            case 6:
                return table.greatestUsed();
            case 7:
                return table.lettersOfWords();
            case 8:
                return bufferLength;
            case 9:
                return savedStates;
            default:
                throw new IllegalArgumentException("what is 0 to 9");
        }
    }

    public int find() {
        return table.leafOf(buffer);
    }

    public int longest() {
        return table.longestAtStartOf(buffer);
    }

    public int beginning() {
        return table.wordsWith(buffer);
    }

    public int ahead() {
        return table.wordsAhead(buffer);
    }

    public int word(int rank, int at) throws IllegalArgumentException {
        if (rank < 0) {
            throw new IllegalArgumentException("a rank is 0 or more");
        }
        if (at < 0 || at > LONGEST) {
            throw new IllegalArgumentException("at is 0 to 12");
        }
        long text = table.wordAt(rank);
        if (text == 0 || at > Texts.lengthOf(text)) {
            return NONE;
        }
        return Texts.letterAt(text, at);
    }

    // ---- what would be; nothing is changed

    public int ifAdded(int what) throws IllegalArgumentException {
        if (what < 0 || what > 3) {
            throw new IllegalArgumentException("what is 0 to 3");
        }
        return costOfTrial(tryToAdd(), what);
    }

    public int ifPacked() {
        return trial.packFrom(table);
    }

    public double fullness() {
        return (double) table.usedCells() / (double) (table.greatestUsed() + 1);
    }

    public long digest() {
        long hash = 2801;
        for (int what = 0; what <= 9; what++) {
            hash = mix(hash, count(what));
        }
        hash = mixCells(hash);
        hash = mixEnds(hash);
        hash = mix(hash, find());
        hash = mix(hash, longest());
        hash = mix(hash, beginning());
        hash = mix(hash, ahead());
        for (int rank = 0; rank <= 2; rank++) {
            for (int at = 0; at <= LONGEST; at++) {
                hash = mix(hash, word(rank, at));
            }
        }
        int outcome = tryToAdd();
        for (int what = 0; what <= 3; what++) {
            hash = mix(hash, costOfTrial(outcome, what));
        }
        hash = mix(hash, trial.packFrom(table));
        hash = mix(hash, bitsOf(fullness()));
        for (int at = 0; at < bufferLength; at++) {
            hash = mix(hash, Texts.letterAt(buffer, at));
        }
        return hash;
    }

    private long mixCells(long start) {
        long hash = start;
        for (int cell = 0; cell < CELLS; cell++) {
            if (table.propertyOf(cell, 0) != FREE) {
                hash = mix(hash, cell);
                for (int what = 0; what <= 6; what++) {
                    hash = mix(hash, table.propertyOf(cell, what));
                }
            }
        }
        return hash;
    }

    private long mixEnds(long start) {
        long hash = start;
        for (int place = 0; place < PLACES; place++) {
            int uses = table.ends.usesOf(place);
            if (uses > 0) {
                long text = table.ends.textAt(place);
                int length = Texts.lengthOf(text);
                hash = mix(mix(mix(hash, place), uses), length);
                for (int at = 0; at < length; at++) {
                    hash = mix(hash, Texts.letterAt(text, at));
                }
            }
        }
        return hash;
    }

    private static long mix(long hash, long value) {
        return 31 * hash + value;
    }

    /** The bits of a double above 0 and up to 1; LANGUAGE.md leaves no library call for them. */
    private static long bitsOf(double share) {
        double scaled = share;
        long exponent = 1023;
        for (int i = 0; i < 1023 && scaled < 1.0; i++) {
            scaled = scaled * 2.0;
            exponent--;
        }
        long fraction = (long) ((scaled - 1.0) * (double) (1L << 52));
        return (exponent << 52) + fraction;
    }

    /** Answers what adding the buffer comes to; if it would be added, the trial is the table with it. */
    private int tryToAdd() {
        if (bufferLength == 0) {
            return BUFFER_IS_EMPTY;
        }
        if (table.leafOf(buffer) != NONE) {
            return IS_THERE;
        }
        trial.copyFrom(table);
        return trial.insert(buffer) == NONE ? IS_REFUSED : WOULD_BE_ADDED;
    }

    /** Tells what ifAdded promises, once tryToAdd has answered with the outcome. */
    private int costOfTrial(int outcome, int what) {
        if (what == 0) {
            return outcome;
        }
        if (outcome != WOULD_BE_ADDED) {
            return NONE;
        }
        if (what == 1) {
            return trial.usedCells() - table.usedCells();
        }
        if (what == 2) {
            return trial.moved - table.moved;
        }
        return trial.ends.kept() - table.ends.kept() + 100;
    }

    private void saveState() {
        if (savedStates >= saved.length) {
            dropOldestState();
        }
        if (savedStates >= 0 && savedStates < saved.length) {
            Table next = saved[savedStates];
            if (next != null) {
                next.copyFrom(table);
                savedStates++;
            }
        }
    }

    private void dropOldestState() {
        if (saved.length == 0) {
            return;
        }
        Table oldest = saved[0];
        for (int i = 1; i < saved.length; i++) {
            saved[i - 1] = saved[i];
        }
        saved[saved.length - 1] = oldest;
        savedStates--;
    }

    /** Beyond a row stands NONE, which is no kind of cell and nobody's parent. */
    private static int at(int[] row, int index) {
        return index >= 0 && index < row.length ? row[index] : NONE;
    }

    private static void put(int[] row, int index, int value) {
        if (index >= 0 && index < row.length) {
            row[index] = value;
        }
    }

    private static void copyRow(int[] from, int[] to) {
        System.arraycopy(from, 0, to, 0, Math.min(from.length, to.length));
    }

    /** Up to twelve letters in one number, four bits each, the first one lowest: so 0 stands behind the last. */
    private static final class Texts {
        private static final int BITS = 4;
        private static final int LETTER_MASK = 15;

        static int firstOf(long text) {
            return (int) (text & LETTER_MASK);
        }

        static long withoutFirst(long text) {
            return text >>> BITS;
        }

        static int letterAt(long text, int index) {
            return firstOf(text >>> (BITS * index));
        }

        static long withLetter(long text, int index, int letter) {
            return text | ((long) letter << (BITS * index));
        }

        static long startOf(long text, int length) {
            return text & ((1L << (BITS * length)) - 1);
        }

        static int lengthOf(long text) {
            int length = 0;
            for (int i = 0; i < LONGEST; i++) {
                if (letterAt(text, i) != 0) {
                    length++;
                }
            }
            return length;
        }

        static boolean begins(long text, long start) {
            return startOf(text, lengthOf(start)) == start;
        }

        static boolean isAhead(long one, long other) {
            for (int i = 0; i < LONGEST; i++) {
                int left = letterAt(one, i);
                int right = letterAt(other, i);
                if (left != right) {
                    return left < right;
                }
            }
            return false;
        }
    }

    /** The ends of words, each text kept once with how many leaves use it. */
    private static final class Ends {
        private final int[] uses = new int[PLACES];
        private final long[] texts = new long[PLACES];

        void clear() {
            Arrays.fill(uses, 0);
            Arrays.fill(texts, 0L);
        }

        void copyFrom(Ends other) {
            copyRow(other.uses, uses);
            System.arraycopy(other.texts, 0, texts, 0, Math.min(other.texts.length, texts.length));
        }

        int usesOf(int place) {
            return at(uses, place);
        }

        long textAt(int place) {
            return place >= 0 && place < texts.length ? texts[place] : 0L;
        }

        /** Answers the place where the text is kept then, NONE if there is none for it. */
        int keep(long text) {
            int place = placeFor(text);
            if (place >= 0 && place < texts.length) {
                texts[place] = text;
                put(uses, place, at(uses, place) + 1);
            }
            return place;
        }

        private int placeFor(long text) {
            int lowestFree = NONE;
            for (int place = 0; place < uses.length && place < texts.length; place++) {
                if (uses[place] > 0) {
                    if (texts[place] == text) {
                        return place;
                    }
                } else if (lowestFree == NONE) {
                    lowestFree = place;
                }
            }
            return lowestFree;
        }

        void release(int place) {
            int left = at(uses, place) - 1;
            if (left >= 0) {
                put(uses, place, left);
            }
            if (left == 0 && place >= 0 && place < texts.length) {
                texts[place] = 0;
            }
        }

        int kept() {
            int kept = 0;
            for (int place = 0; place < uses.length; place++) {
                if (uses[place] > 0) {
                    kept++;
                }
            }
            return kept;
        }

        int letters() {
            int letters = 0;
            for (int place = 0; place < texts.length; place++) {
                letters += Texts.lengthOf(texts[place]);
            }
            return letters;
        }
    }

    /** The cells with their ends: all that undo brings back. */
    private static final class Table {
        final Ends ends = new Ends();
        private final int[] kind = new int[CELLS];
        private final int[] parent = new int[CELLS];
        private final int[] byLetter = new int[CELLS];
        private final int[] offset = new int[CELLS];
        private final int[] place = new int[CELLS];
        /** A bit for each letter by which the cell has a child. */
        private final int[] children = new int[CELLS];
        /** The words below each cell, kept along so that ranks need no walk through the whole table. */
        private final int[] below = new int[CELLS];
        int moved;

        Table() {
            moved = 0;
            Arrays.fill(parent, NONE);
            Arrays.fill(byLetter, NONE);
            Arrays.fill(place, NONE);
            put(kind, ROOT, INNER);
        }

        void clear() {
            for (int cell = 0; cell < CELLS; cell++) {
                clearCell(cell);
            }
            put(kind, ROOT, INNER);
            ends.clear();
            moved = 0;
        }

        private void clearCell(int cell) {
            put(kind, cell, FREE);
            put(parent, cell, NONE);
            put(byLetter, cell, NONE);
            put(offset, cell, 0);
            put(place, cell, NONE);
            put(children, cell, 0);
            put(below, cell, 0);
        }

        void copyFrom(Table other) {
            copyRow(other.kind, kind);
            copyRow(other.parent, parent);
            copyRow(other.byLetter, byLetter);
            copyRow(other.offset, offset);
            copyRow(other.place, place);
            copyRow(other.children, children);
            copyRow(other.below, below);
            ends.copyFrom(other.ends);
            moved = other.moved;
        }

        /** Becomes the other table packed anew; answers the cells used then, NONE if a word is refused. */
        int packFrom(Table other) {
            clear();
            moved = other.moved;
            int words = other.words();
            for (int rank = 0; rank < words; rank++) {
                if (insert(other.wordAt(rank)) == NONE) {
                    return NONE;
                }
            }
            return usedCells();
        }

        // ---- adding; where NONE is answered, the table is left half changed and is of no use

        /** Adds a word that is not there; answers its leaf, NONE if it is refused. */
        int insert(long word) {
            int cell = ROOT;
            long rest = word;
            for (int depth = 0; depth <= DEEPEST; depth++) {
                if (at(kind, cell) == LEAF) {
                    return splitLeaf(cell, rest);
                }
                int letter = Texts.firstOf(rest);
                rest = Texts.withoutFirst(rest);
                int child = childOf(cell, letter);
                if (child == NONE) {
                    return hangLeaf(makeRoom(cell, letter), letter, rest);
                }
                cell = child;
            }
            return NONE;
        }

        /** Sees that the cell's child by the letter has a place; answers where the cell is then. */
        private int makeRoom(int cell, int letter) {
            if (at(children, cell) == 0) {
                return placeFirst(cell, 1 << letter) ? cell : NONE;
            }
            int wanted = at(offset, cell) + letter;
            if (at(kind, wanted) == FREE) {
                return cell;
            }
            // beyond the table stands no rival
            int rival = at(parent, wanted);
            if (rival == NONE || childrenOf(rival) >= childrenOf(cell) + 1) {
                return moveChildren(cell, 1 << letter) ? cell : NONE;
            }
            boolean moves = at(parent, cell) == rival;
            int ownLetter = at(byLetter, cell);
            if (!moveChildren(rival, 0)) {
                return NONE;
            }
            return moves ? at(offset, rival) + ownLetter : cell;
        }

        private boolean placeFirst(int cell, int letters) {
            int found = leastOffset(letters);
            put(offset, cell, found);
            return found > 0;
        }

        /** Moves the children to where they and those by the new letters have room; false if nowhere. */
        private boolean moveChildren(int cell, int newLetters) {
            int letters = at(children, cell);
            int from = at(offset, cell);
            int to = leastOffset(letters | newLetters);
            if (to == 0) {
                return false;
            }
            for (int letter = 0; letter <= LETTERS; letter++) {
                if ((letters >> letter & 1) != 0) {
                    handChildrenOver(from + letter, to + letter);
                    copyCell(from + letter, to + letter);
                    clearCell(from + letter);
                    moved++;
                }
            }
            put(offset, cell, to);
            return true;
        }

        private void handChildrenOver(int from, int to) {
            for (int letter = 0; letter <= LETTERS; letter++) {
                int grandchild = at(offset, from) + letter;
                if (at(parent, grandchild) == from) {
                    put(parent, grandchild, to);
                }
            }
        }

        private void copyCell(int from, int to) {
            put(kind, to, at(kind, from));
            put(parent, to, at(parent, from));
            put(byLetter, to, at(byLetter, from));
            put(offset, to, at(offset, from));
            put(place, to, at(place, from));
            put(children, to, at(children, from));
            put(below, to, at(below, from));
        }

        /** Answers the least offset with which the cells for these letters are free, 0 if there is none. */
        private int leastOffset(int letters) {
            for (int start = 1; start < CELLS; start++) {
                boolean fits = true;
                for (int letter = 0; letter <= LETTERS && fits; letter++) {
                    int child = start + letter;
                    fits = (letters >> letter & 1) == 0 || child < kind.length && kind[child] == FREE;
                }
                if (fits) {
                    return start;
                }
            }
            return 0;
        }

        private int hangLeaf(int cell, int letter, long rest) {
            if (cell == NONE) {
                return NONE;
            }
            int endPlace = ends.keep(rest);
            if (endPlace == NONE) {
                return NONE;
            }
            addBelow(cell, 1);
            return putChild(cell, letter, LEAF, endPlace);
        }

        /** The leaf's word and the new one part somewhere behind the leaf, which becomes inner. */
        private int splitLeaf(int leaf, long rest) {
            long oldRest = ends.textAt(at(place, leaf));
            long newRest = rest;
            ends.release(at(place, leaf));
            put(kind, leaf, INNER);
            put(place, leaf, NONE);
            int cell = leaf;
            for (int i = 0; i < LONGEST && Texts.firstOf(oldRest) == Texts.firstOf(newRest); i++) {
                int letter = Texts.firstOf(oldRest);
                if (!placeFirst(cell, 1 << letter)) {
                    return NONE;
                }
                cell = putChild(cell, letter, INNER, NONE);
                oldRest = Texts.withoutFirst(oldRest);
                newRest = Texts.withoutFirst(newRest);
            }
            return fork(cell, oldRest, newRest);
        }

        private int fork(int cell, long oldRest, long newRest) {
            int oldLetter = Texts.firstOf(oldRest);
            int newLetter = Texts.firstOf(newRest);
            if (!placeFirst(cell, 1 << oldLetter | 1 << newLetter)) {
                return NONE;
            }
            int oldPlace = ends.keep(Texts.withoutFirst(oldRest));
            int newPlace = ends.keep(Texts.withoutFirst(newRest));
            if (oldPlace == NONE || newPlace == NONE) {
                return NONE;
            }
            addBelow(cell, 1);
            putChild(cell, oldLetter, LEAF, oldPlace);
            return putChild(cell, newLetter, LEAF, newPlace);
        }

        /** The place must be free; a new child has one word below it at first. */
        private int putChild(int cell, int letter, int kindOfChild, int endPlace) {
            int child = at(offset, cell) + letter;
            put(kind, child, kindOfChild);
            put(parent, child, cell);
            put(byLetter, child, letter);
            put(place, child, endPlace);
            put(below, child, 1);
            put(children, cell, at(children, cell) | 1 << letter);
            return child;
        }

        private void addBelow(int start, int more) {
            int cell = start;
            for (int depth = 0; depth <= DEEPEST && cell != NONE; depth++) {
                put(below, cell, at(below, cell) + more);
                cell = at(parent, cell);
            }
        }

        // ---- removing

        /** Removes the word of the leaf; answers how many cells are free by that. */
        int freeLeaf(int leaf) {
            ends.release(at(place, leaf));
            addBelow(at(parent, leaf), -1);
            int freed = 0;
            int cell = leaf;
            for (int depth = 0; depth <= DEEPEST && cell > ROOT && at(children, cell) == 0; depth++) {
                int above = at(parent, cell);
                loseChild(above, at(byLetter, cell));
                clearCell(cell);
                freed++;
                cell = above;
            }
            return freed;
        }

        private void loseChild(int cell, int letter) {
            int left = at(children, cell) & ~(1 << letter);
            put(children, cell, left);
            if (left == 0) {
                put(offset, cell, 0);
            }
        }

        // ---- looks

        private int childOf(int cell, int letter) {
            return (at(children, cell) >> letter & 1) == 0 ? NONE : at(offset, cell) + letter;
        }

        private int childrenOf(int cell) {
            return Integer.bitCount(at(children, cell));
        }

        private long endOf(int leaf) {
            return ends.textAt(at(place, leaf));
        }

        int propertyOf(int cell, int what) {
            switch (what) {
                case 0:
                    return at(kind, cell);
                case 1:
                    return at(parent, cell);
                case 2:
                    return at(byLetter, cell);
                case 3:
                    return at(offset, cell);
                case 4:
                    return at(place, cell);
                case 5:
                    return childrenOf(cell);
                default:
                    return at(below, cell);
            }
        }

        int words() {
            return at(below, ROOT);
        }

        int usedCells() {
            int used = 0;
            for (int cell = 0; cell < kind.length; cell++) {
                if (kind[cell] != FREE) {
                    used++;
                }
            }
            return used;
        }

        int innerCells() {
            int inner = 0;
            for (int cell = 0; cell < kind.length; cell++) {
                if (kind[cell] == INNER) {
                    inner++;
                }
            }
            return inner;
        }

        int greatestUsed() {
            int greatest = ROOT;
            for (int cell = 0; cell < kind.length; cell++) {
                if (kind[cell] != FREE) {
                    greatest = cell;
                }
            }
            return greatest;
        }

        int lettersOfWords() {
            int letters = 0;
            for (int cell = 0; cell < CELLS; cell++) {
                // each word below goes through this cell's letter; 0 and the root's NONE are none
                if (at(byLetter, cell) > 0) {
                    letters += at(below, cell);
                }
                if (at(kind, cell) == LEAF) {
                    letters += Texts.lengthOf(endOf(cell));
                }
            }
            return letters;
        }

        int leafOf(long word) {
            int cell = ROOT;
            long rest = word;
            for (int depth = 0; depth <= DEEPEST && cell != NONE; depth++) {
                if (at(kind, cell) == LEAF) {
                    return endOf(cell) == rest ? cell : NONE;
                }
                cell = childOf(cell, Texts.firstOf(rest));
                rest = Texts.withoutFirst(rest);
            }
            return NONE;
        }

        /** Answers the length of the longest word with which the text begins, NONE if there is none. */
        int longestAtStartOf(long text) {
            int best = NONE;
            int cell = ROOT;
            long rest = text;
            for (int depth = 0; depth <= DEEPEST && cell != NONE; depth++) {
                if (at(kind, cell) == LEAF) {
                    return Texts.begins(rest, endOf(cell)) ? depth + Texts.lengthOf(endOf(cell)) : best;
                }
                if (childOf(cell, 0) != NONE) {
                    best = depth;
                }
                cell = rest == 0 ? NONE : childOf(cell, Texts.firstOf(rest));
                rest = Texts.withoutFirst(rest);
            }
            return best;
        }

        /** Counts the words that begin with the text. */
        int wordsWith(long text) {
            int cell = ROOT;
            long rest = text;
            for (int depth = 0; depth <= DEEPEST && cell != NONE; depth++) {
                if (at(kind, cell) == LEAF) {
                    return Texts.begins(endOf(cell), rest) ? 1 : 0;
                }
                if (rest == 0) {
                    return at(below, cell);
                }
                cell = childOf(cell, Texts.firstOf(rest));
                rest = Texts.withoutFirst(rest);
            }
            return 0;
        }

        /** Counts the words that stand ahead of the text. */
        int wordsAhead(long text) {
            int words = 0;
            int cell = ROOT;
            long rest = text;
            for (int depth = 0; depth <= DEEPEST && cell != NONE && rest != 0; depth++) {
                if (at(kind, cell) == LEAF) {
                    return Texts.isAhead(endOf(cell), rest) ? words + 1 : words;
                }
                words += wordsBefore(cell, Texts.firstOf(rest));
                cell = childOf(cell, Texts.firstOf(rest));
                rest = Texts.withoutFirst(rest);
            }
            return words;
        }

        /** Counts the words below the cell's children by lesser letters. */
        private int wordsBefore(int cell, int letter) {
            int words = 0;
            for (int lesser = 0; lesser < letter; lesser++) {
                int child = childOf(cell, lesser);
                if (child != NONE) {
                    words += at(below, child);
                }
            }
            return words;
        }

        /** Answers the word with this rank in the order; 0, which is no word, if there are not so many. */
        long wordAt(int rank) {
            if (rank < 0 || rank >= words()) {
                return 0;
            }
            int cell = ROOT;
            int left = rank;
            long text = 0;
            for (int depth = 0; depth <= DEEPEST; depth++) {
                if (at(kind, cell) == LEAF) {
                    return text | endOf(cell) << (Texts.BITS * depth);
                }
                int letter = letterOfRank(cell, left);
                left -= wordsBefore(cell, letter);
                text = Texts.withLetter(text, depth, letter);
                cell = childOf(cell, letter);
            }
            return 0;
        }

        /** Answers the letter behind which the word with this rank among those below the cell goes on. */
        private int letterOfRank(int cell, int rank) {
            int left = rank;
            for (int letter = 0; letter < LETTERS; letter++) {
                int child = childOf(cell, letter);
                int words = child == NONE ? 0 : at(below, child);
                if (left < words) {
                    return letter;
                }
                left -= words;
            }
            return LETTERS;
        }
    }
}
