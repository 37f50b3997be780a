/** Promises 19 and 21: ifAdded, fullness. (PackTest has ifPacked, DigestTest digest.) */
public final class ForecastTest {
    public static void main(String[] args) {
        Check.run(ForecastTest.class);
    }

    /** Asks for ifAdded with 0, 1 and so on. */
    private static void dueIfAdded(Words x, String word, int... due) {
        x.type(word);
        for (int what = 0; what < due.length; what++) {
            Check.due("ifAdded(" + what + ") with " + word, x.ifAdded(what), due[what]);
        }
    }

    // ---- nothing is changed

    @Says("Ahead of the calls `ifAdded`, `ifPacked`, `fullness`, `digest` the interface says: ---- what would be; nothing "
            + "is changed.")
    static void whatWouldBeChangesNothing() {
        Words[] tables = {Tables.four(), Tables.full(), Tables.allEnds(), Tables.fullAndNotToBePacked()};
        Words[] twins = {Tables.four(), Tables.full(), Tables.allEnds(), Tables.fullAndNotToBePacked()};
        for (int i = 0; i < tables.length; i++) {
            Words x = tables[i];
            Words twin = twins[i];
            for (String word : new String[] {"b", "abcc", "gaaaaac", "a"}) {
                x.type(word);
                x.ifAdded(0);
                x.ifAdded(1);
                x.ifAdded(2);
                x.ifAdded(3);
                x.ifPacked();
                x.fullness();
                x.digest();
            }
            twin.type("a");
            Check.due("digest() of table " + i, x.digest(), twin.digest());
            for (int states = twin.count(9); states > 0; states--) {
                x.undo();
                twin.undo();
                Check.due("digest() of table " + i + " with fewer states", x.digest(), twin.digest());
            }
        }
    }

    // ---- 19 ifAdded

    @Says(promise = 19, value = {"Tells what adding the word in the buffer would bring.", "Returns the number."})
    static void ifAddedTellsWhatAddThenBrings() {
        String[] all = {"a", "h", "aa", "b", "ab", "c", "cab", "cabde", "cabdf", "hh", "ba", "ac", "d"};
        Words x = new Words();
        for (String word : all) {
            x.type(word);
            Check.due("ifAdded(0) with " + word, x.ifAdded(0), 0);
            int cells = x.count(1) + x.ifAdded(1);
            int moved = x.count(5) + x.ifAdded(2);
            int ends = x.count(3) + x.ifAdded(3) - 100;
            x.add();
            Check.due("cells with " + word, x.count(1), cells);
            Check.due("moved cells with " + word, x.count(5), moved);
            Check.due("ends with " + word, x.count(3), ends);
        }
        Check.dueTrue("some have moved", x.count(5) > 0);
    }

    @Says(promise = 19, value = "`what`: 0: 0 if it would be added")
    static void ifAdded0Tells0IfTheWordWouldBeAdded() {
        dueIfAdded(new Words(), "h", 0);
        dueIfAdded(Tables.four(), "ab", 0);
        dueIfAdded(Tables.four(), "hhhhhhhhhhhh", 0);
        dueIfAdded(Tables.fullButTheLast(), "gaaaac", 0);
    }

    @Says(promise = 19, value = ", 1 if it is there already")
    static void ifAdded0Tells1IfTheWordIsThere() {
        dueIfAdded(Tables.four(), "a", 1);
        dueIfAdded(Tables.four(), "gbcd", 1);
        dueIfAdded(Tables.full(), "gaaaaab", 1);
        dueIfAdded(Tables.four().with("-gbcd"), "gbcd", 0);
    }

    @Says(promise = 19, value = ", 2 if it would be refused")
    static void ifAdded0Tells2IfTheWordWouldBeRefused() {
        dueIfAdded(Tables.full(), "h", 2);
        dueIfAdded(Tables.full(), "gaaaaac", 2);
        dueIfAdded(Tables.fullButTheLast(), "gaaaaaab", 2);
        dueIfAdded(Tables.fullButSeven('a', 'b'), "aaaah", 2);
        dueIfAdded(Tables.fullButSevenWithTwoFarApart(), "bg", 2);
        dueIfAdded(Tables.allEnds(), "hh", 2);
        dueIfAdded(Tables.allEnds(), "aabc", 2);
    }

    @Says(promise = 19, value = ", 3 if the buffer is empty")
    static void ifAdded0Tells3IfTheBufferIsEmpty() {
        dueIfAdded(new Words(), "", 3);
        dueIfAdded(Tables.four(), "", 3);
        dueIfAdded(Tables.full(), "", 3);
    }

    @Says(promise = 19, value = "; 1: how many cells more would be used")
    static void ifAdded1TellsHowManyCellsMore() {
        Words x = Tables.of("abc");
        dueIfAdded(x, "b", 0, 1);
        dueIfAdded(x, "a", 0, 2);
        dueIfAdded(x, "abd", 0, 3);
        dueIfAdded(x, "abcd", 0, 4);
        Words longest = Tables.of("aaaaaaaaaaaa");
        dueIfAdded(longest, "aaaaaaaaaaa", 0, 12);
        dueIfAdded(longest, "aaaaaaaaaaab", 0, 12);
    }

    @Says(promise = 19, value = ", 2: how many cells would move")
    static void ifAdded2TellsHowManyCellsWouldMove() {
        Words x = Tables.of("a", "h", "aa");
        dueIfAdded(x, "b", 0, 1, 2);
        dueIfAdded(x, "d", 0, 1, 0);
        Check.due("nothing has moved", x.count(5), 0);
        x.add("b");
        Check.due("two have moved", x.count(5), 2);
        // those do not count for what comes then
        dueIfAdded(x, "c", 0, 1, 0);
        dueIfAdded(Tables.of("a", "aa"), "b", 0, 1, 1);
    }

    @Says(promise = 19, value = ", 3: how many ends more would be kept (as a number of 100 and more or less: plus 100)")
    static void ifAdded3TellsHowManyEndsMorePlus100() {
        dueIfAdded(new Words(), "a", 0, 1, 0, 101);
        Words x = Tables.of("abc");
        // bc is kept already; so would be none; c and none instead of bc; none twice instead of bc
        dueIfAdded(x, "bbc", 0, 1, 0, 100);
        dueIfAdded(x, "b", 0, 1, 0, 101);
        dueIfAdded(x, "a", 0, 2, 0, 101);
        dueIfAdded(x, "abd", 0, 3, 0, 100);
        x.add("e");
        // one without letters is kept already, and bc is given up
        dueIfAdded(x, "abd", 0, 3, 0, 99);
        x.add("bbc");
        // bc stays, for bbc
        dueIfAdded(x, "abd", 0, 3, 0, 100);
        // b and c, and bc stays
        dueIfAdded(x, "ahc", 0, 2, 0, 101);
        dueIfAdded(x, "aab", 0, 2, 0, 102);
    }

    @Says(promise = 19, value = ", NONE for 1 to 3 if it would not be added")
    static void ifAdded1To3TellNoneIfTheWordWouldNotBeAdded() {
        dueIfAdded(Tables.four(), "a", 1, -1, -1, -1);
        dueIfAdded(Tables.full(), "h", 2, -1, -1, -1);
        dueIfAdded(Tables.allEnds(), "hh", 2, -1, -1, -1);
        dueIfAdded(Tables.four(), "", 3, -1, -1, -1);
    }

    @Says(promise = 19, value = "Throws `IllegalArgumentException` if what is not 0 to 3")
    static void ifAddedThrowsForMinus1And4() {
        Words[] tables = {new Words(), Tables.four(), Tables.full()};
        for (Words x : tables) {
            for (String word : new String[] {"", "a", "h", "cc"}) {
                x.type(word);
                for (int what : new int[] {-1, 4, -2, 5, 1000, Integer.MIN_VALUE, Integer.MAX_VALUE}) {
                    Check.dueThrowUnchanged("ifAdded(" + what + ") with " + word, x, () -> x.ifAdded(what),
                            IllegalArgumentException.class);
                }
            }
        }
    }

    // ---- 21 fullness

    @Says(promise = 21, value = "Returns how full the table is.")
    static void fullnessIsOneIfAllCellsUpToTheGreatestAreUsed() {
        Check.dueDouble("fullness() of the root alone", new Words().fullness(), 1.0);
        // the cells 0, 1, 2 and 3
        Check.dueDouble("fullness() with a and ab", Tables.of("ab", "a").fullness(), 1.0);
    }

    @Says(promise = 21, value = "Returns the cells that are used, as a double, divided by the greatest one that is used and "
            + "1 more.")
    static void fullnessDividesTheUsedCellsByTheGreatestAnd1More() {
        Words x = Tables.of("h");
        Check.dueDouble("fullness() with h", x.fullness(), 2.0 / 10.0);
        x.add("a");
        Check.dueDouble("fullness() with a too", x.fullness(), 3.0 / 10.0);
        x.remove("h");
        Check.dueDouble("fullness() without h", x.fullness(), 2.0 / 3.0);
        x.remove("a");
        Check.dueDouble("fullness() without a", x.fullness(), 1.0);
        Check.dueDouble("fullness() of a full table", Tables.full().fullness(), 159.0 / 160.0);
        Check.dueDouble("fullness() of a table with high cells", highCells().fullness(), 9.0 / 160.0);
    }

    @Says("All numbers are integers, but for a share.")
    static void fullnessAloneIsAShare() {
        Check.dueDouble("fullness()", Tables.of("b").fullness(), 0.5);
        Check.dueTrue("it is below 1 and above 0", highCells().fullness() < 1.0 && highCells().fullness() > 0.0);
    }

    /** The root, g, five inner cells behind it and two leaves, 158 and 159. */
    static Words highCells() {
        Words x = Tables.full();
        for (char first = 'a'; first <= 'f'; first++) {
            x.type("" + first);
            x.removeAll();
        }
        x.clearBuffer();
        return x;
    }
}
