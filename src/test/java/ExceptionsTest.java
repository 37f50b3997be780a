import java.util.List;
import java.util.function.Supplier;
import java.util.function.ToLongFunction;

/** What the document says under "Exceptions": a call that throws changes nothing, and which exception comes first. */
public final class ExceptionsTest {
    private static final int[] EDGES = {Integer.MIN_VALUE, -2, -1, 0, 1, 2, 3, 4, 6, 7, 8, 9, 10, 11, 12, 13, 39, 40, 159,
        160, Integer.MAX_VALUE};

    public static void main(String[] args) {
        Check.run(ExceptionsTest.class);
    }

    /** The table is behind some calls, with a word typed; its saved states hold different tables. */
    private static Words typed(String word) {
        Words x = Tables.of("a", "aa", "b", "abc", "-aa", "hgf");
        x.type(word);
        return x;
    }

    private static Words typed(Words x, String word) {
        x.type(word);
        return x;
    }

    /**
     * Makes the call on one of two objects that came about alike; then both must tell the same, and also when they go
     * back through all their saved states, and when their buffers are dropped letter by letter.
     */
    private static void dueUnchanged(String call, Supplier<Words> make, ToLongFunction<Words> it, Class<?> want) {
        Words x = make.get();
        Words twin = make.get();
        Check.dueThrow(call, () -> it.applyAsLong(x), want);
        Check.due(call + ", digest()", x.digest(), twin.digest());
        for (int states = twin.count(9); states > 0; states--) {
            Check.due(call + ", undo()", x.undo(), twin.undo());
            Check.due(call + ", digest() with " + states + " states less one", x.digest(), twin.digest());
        }
        for (int letters = twin.count(8); letters > 0; letters--) {
            Check.due(call + ", drop()", x.drop(), twin.drop());
        }
        Check.due(call + ", digest() without all", x.digest(), twin.digest());
        Check.due(call + ", append(1)", x.append(1), twin.append(1));
        Check.due(call + ", add()", x.add(), twin.add());
        Check.due(call + ", digest() with a new word", x.digest(), twin.digest());
    }

    @Says("A call that throws an exception changes nothing.")
    static void appendThatThrowsChangesNothing() {
        dueUnchanged("append(0)", () -> typed("ab"), x -> x.append(0), IllegalArgumentException.class);
        dueUnchanged("append(9)", () -> typed("ab"), x -> x.append(9), IllegalArgumentException.class);
        dueUnchanged("append(1) behind twelve", () -> typed("abcdefghabcd"), x -> x.append(1),
                IllegalStateException.class);
    }

    @Says("A call that throws an exception changes nothing.")
    static void dropThatThrowsChangesNothing() {
        dueUnchanged("drop()", () -> typed(""), x -> x.drop(), IllegalStateException.class);
    }

    @Says("A call that throws an exception changes nothing.")
    static void addThatThrowsChangesNothing() {
        dueUnchanged("add() of none", () -> typed(""), x -> x.add(), IllegalArgumentException.class);
        dueUnchanged("add() of a word that is there", () -> typed("abc"), x -> x.add(), IllegalStateException.class);
    }

    @Says("A call that throws an exception changes nothing.")
    static void addOfARefusedWordChangesNothing() {
        dueUnchanged("add() without cells for letters in common", () -> typed(Tables.full(), "gaaaaaaab"),
                x -> x.add(), IllegalStateException.class);
        dueUnchanged("add() without cells behind one for a letter in common",
                () -> typed(Tables.fullButTheLast(), "gaaaaaab"), x -> x.add(), IllegalStateException.class);
        dueUnchanged("add() without cells for s", () -> typed(Tables.fullButSeven('a', 'b'), "aaaah"),
                x -> x.add(), IllegalStateException.class);
        dueUnchanged("add() without cells for t", () -> typed(Tables.fullButSevenWithTwoFarApart(), "bg"),
                x -> x.add(), IllegalStateException.class);
        dueUnchanged("add() without a place for a leaf's end", () -> typed(Tables.allEnds(), "hh"),
                x -> x.add(), IllegalStateException.class);
        dueUnchanged("add() without a place for the second of two ends", () -> typed(Tables.allEnds(), "aabc"),
                x -> x.add(), IllegalStateException.class);
    }

    @Says("A call that throws an exception changes nothing.")
    static void addThatIsRefusedBehindAMoveChangesNothing() {
        Words x = typed(Tables.allEnds(), "hh");
        // the children of the cell's parent or the root's move, for which there is room; the end's place is missing
        int wanted = x.cell(0, 3) + 8;
        Check.dueTrue("another parent's cell stands where h would", x.cell(wanted, 0) != 0 && x.cell(wanted, 1) != 0);
        Check.due("a letter with an end that is kept", Tables.allEnds().with("hab").count(0), 41);
        int before = x.count(5);
        Check.dueThrowUnchanged("add()", x, () -> x.add(), IllegalStateException.class);
        Check.due("cells that moved", x.count(5), before);
        Words moved = Tables.allEnds();
        before = moved.count(5);
        moved.add("hab");
        Check.dueTrue("with that end, cells move", moved.count(5) > before);
    }

    @Says("A call that throws an exception changes nothing.")
    static void removeThatThrowsChangesNothing() {
        dueUnchanged("remove() of none", () -> typed(""), x -> x.remove(), IllegalArgumentException.class);
        dueUnchanged("remove() of a word that is not there", () -> typed("hg"), x -> x.remove(),
                IllegalStateException.class);
    }

    @Says("A call that throws an exception changes nothing.")
    static void packThatThrowsChangesNothing() {
        dueUnchanged("pack()", () -> typed(Tables.fullAndNotToBePacked(), "ab"), x -> x.pack(),
                IllegalStateException.class);
    }

    @Says("A call that throws an exception changes nothing.")
    static void undoThatThrowsChangesNothing() {
        dueUnchanged("undo()", () -> typed(new Words(), "ab"), x -> x.undo(), IllegalStateException.class);
    }

    @Says("A call that throws an exception changes nothing.")
    static void looksThatThrowChangeNothing() {
        Supplier<Words> make = () -> typed("bc");
        dueUnchanged("cell(160, 0)", make, x -> x.cell(160, 0), IndexOutOfBoundsException.class);
        dueUnchanged("cell(0, 7)", make, x -> x.cell(0, 7), IllegalArgumentException.class);
        dueUnchanged("end(40, 0)", make, x -> x.end(40, 0), IndexOutOfBoundsException.class);
        dueUnchanged("end(0, 2)", make, x -> x.end(0, 2), IllegalArgumentException.class);
        dueUnchanged("letter(40, 0)", make, x -> x.letter(40, 0), IndexOutOfBoundsException.class);
        dueUnchanged("letter(0, 12)", make, x -> x.letter(0, 12), IllegalArgumentException.class);
        dueUnchanged("count(10)", make, x -> x.count(10), IllegalArgumentException.class);
        dueUnchanged("word(-1, 0)", make, x -> x.word(-1, 0), IllegalArgumentException.class);
        dueUnchanged("word(0, 13)", make, x -> x.word(0, 13), IllegalArgumentException.class);
        dueUnchanged("ifAdded(4)", make, x -> x.ifAdded(4), IllegalArgumentException.class);
    }

    // ---- which one comes first

    @Says("If several exceptions apply, the one that is named first in the throws clause is thrown.")
    static void appendThrowsForTheLetterFirst() {
        Words x = new Words();
        x.type("abcdefghabcd");
        for (int letter : new int[] {0, 9, -1, Integer.MIN_VALUE, Integer.MAX_VALUE}) {
            Check.dueThrowUnchanged("append(" + letter + ") behind twelve", x, () -> x.append(letter),
                    IllegalArgumentException.class);
        }
    }

    @Says("If several exceptions apply, the one that is named first in the throws clause is thrown.")
    static void cellThrowsForTheCellFirst() {
        Words x = Tables.four();
        for (int cell : new int[] {-1, 160, Integer.MIN_VALUE, Integer.MAX_VALUE}) {
            for (int what : new int[] {-1, 7, Integer.MIN_VALUE, Integer.MAX_VALUE}) {
                Check.dueThrow("cell(" + cell + ", " + what + ")", () -> x.cell(cell, what),
                        IndexOutOfBoundsException.class);
            }
        }
    }

    @Says("If several exceptions apply, the one that is named first in the throws clause is thrown.")
    static void endThrowsForThePlaceFirst() {
        Words x = Tables.four();
        for (int place : new int[] {-1, 40, Integer.MIN_VALUE, Integer.MAX_VALUE}) {
            for (int what : new int[] {-1, 2, Integer.MIN_VALUE, Integer.MAX_VALUE}) {
                Check.dueThrow("end(" + place + ", " + what + ")", () -> x.end(place, what),
                        IndexOutOfBoundsException.class);
            }
        }
    }

    @Says("If several exceptions apply, the one that is named first in the throws clause is thrown.")
    static void letterThrowsForThePlaceFirst() {
        Words x = Tables.four();
        for (int place : new int[] {-1, 40, Integer.MIN_VALUE, Integer.MAX_VALUE}) {
            for (int at : new int[] {-1, 12, Integer.MIN_VALUE, Integer.MAX_VALUE}) {
                Check.dueThrow("letter(" + place + ", " + at + ")", () -> x.letter(place, at),
                        IndexOutOfBoundsException.class);
            }
        }
    }

    @Says("If several exceptions apply, the one that is named first in the throws clause is thrown.")
    static void addAndRemoveThrowForAnEmptyBufferFirst() {
        Words full = Tables.full();
        full.clearBuffer();
        Check.dueThrow("add() of none to a full table", () -> full.add(), IllegalArgumentException.class);
        Words none = new Words();
        Check.dueThrow("remove() of none from none", () -> none.remove(), IllegalArgumentException.class);
    }

    // ---- nothing else is thrown

    private static boolean in(int number, int from, int to) {
        return number >= from && number <= to;
    }

    private static void due(String call, Check.Call it, Class<?> want) {
        if (want == null) {
            Check.dueTrue(call, it.run() >= -1);
        } else {
            Check.dueThrow(call, it, want);
        }
    }

    @Says(rule = 7, value = "No call may ever throw by itself (only by a throw statement)")
    static void everyArgumentGetsAnAnswerOrItsOwnException() {
        List<Supplier<Words>> tables = List.of(Words::new, Tables::full, Tables::allEnds, Tables::fullAndNotToBePacked);
        for (Supplier<Words> table : tables) {
            State state = new State(table);
            for (int first : EDGES) {
                due("count(" + first + ")", () -> state.look().count(first),
                        in(first, 0, 9) ? null : IllegalArgumentException.class);
                due("ifAdded(" + first + ")", () -> state.look().ifAdded(first),
                        in(first, 0, 3) ? null : IllegalArgumentException.class);
                for (int second : EDGES) {
                    dueOfTwo(state, first, second);
                }
            }
        }
    }

    private static void dueOfTwo(State state, int first, int second) {
        String both = "(" + first + ", " + second + ")";
        due("cell" + both, () -> state.look().cell(first, second), !in(first, 0, 159) ? IndexOutOfBoundsException.class
                : !in(second, 0, 6) ? IllegalArgumentException.class : null);
        due("end" + both, () -> state.look().end(first, second), !in(first, 0, 39) ? IndexOutOfBoundsException.class
                : !in(second, 0, 1) ? IllegalArgumentException.class : null);
        due("letter" + both, () -> state.look().letter(first, second), !in(first, 0, 39)
                ? IndexOutOfBoundsException.class : !in(second, 0, 11) ? IllegalArgumentException.class : null);
        due("word" + both, () -> state.look().word(first, second),
                first < 0 || !in(second, 0, 12) ? IllegalArgumentException.class : null);
    }
}
