/** Promises 13 to 18: count, find, longest, beginning, ahead, word. */
public final class LooksTest {
    private static final String LONGEST = "aaaaaaaaaaaa";

    public static void main(String[] args) {
        Check.run(LooksTest.class);
    }

    private static void dueCount(Words x, String when, int what, int want) {
        Check.due(when + ": count(" + what + ")", x.count(what), want);
    }

    // ---- nothing is changed

    @Says("Ahead of the calls `cell`, `end`, `letter`, `count`, `find`, `longest`, `beginning`, `ahead`, `word` the "
            + "interface says: ---- looks; nothing is changed.")
    static void looksChangeNothing() {
        Words x = Tables.four();
        Words twin = Tables.four();
        x.type("abcde");
        twin.type("abcde");
        for (int what = 0; what <= 9; what++) {
            x.count(what);
        }
        for (int cell = 0; cell < 160; cell += 3) {
            x.cell(cell, cell % 7);
        }
        for (int place = 0; place < 40; place++) {
            x.end(place, place % 2);
            x.letter(place, place % 12);
        }
        x.find();
        x.longest();
        x.beginning();
        x.ahead();
        x.word(0, 0);
        x.word(3, 12);
        x.word(9, 12);
        Check.due("digest()", x.digest(), twin.digest());
        for (int state = 0; state < 4; state++) {
            x.undo();
            twin.undo();
            Check.due("digest() of a saved state", x.digest(), twin.digest());
        }
    }

    // ---- 13 count

    @Says(promise = 13, value = {"Returns a number.", "Returns the number."})
    static void countReturnsEachNumber() {
        int[] due = {4, 6, 2, 3, 5, 0, 9, 10, 0, 4};
        for (int what = 0; what <= 9; what++) {
            dueCount(Tables.four(), "four words", what, due[what]);
        }
        int[] full = {26, 159, 133, 2, 5, 0, 159, 307, 7, 6};
        for (int what = 0; what <= 9; what++) {
            dueCount(Tables.full(), "a full table", what, full[what]);
        }
    }

    @Says(promise = 13, value = "`what`: 0: words")
    static void count0TellsTheWords() {
        Words x = new Words();
        dueCount(x, "new", 0, 0);
        x.add("ab");
        dueCount(x, "with ab", 0, 1);
        x.add("a");
        dueCount(x, "with a", 0, 2);
        x.remove("ab");
        dueCount(x, "without ab", 0, 1);
        x.undo();
        dueCount(x, "with ab again", 0, 2);
    }

    @Says(promise = 13, value = "; 1: cells that are used")
    static void count1TellsTheUsedCells() {
        Words x = new Words();
        dueCount(x, "new: the root", 1, 1);
        x.add("abc");
        dueCount(x, "a leaf", 1, 2);
        x.add("ab");
        dueCount(x, "an inner cell and two leaves more", 1, 5);
        x.remove("abc");
        dueCount(x, "a leaf less", 1, 4);
        x.remove("ab");
        dueCount(x, "the root", 1, 1);
        dueCount(Tables.full(), "full: all but 1", 1, 159);
    }

    @Says(promise = 13, value = "; 2: inner ones, the root too")
    static void count2TellsTheInnerCells() {
        Words x = new Words();
        dueCount(x, "new: the root", 2, 1);
        x.add("abc");
        dueCount(x, "the root and a leaf", 2, 1);
        x.add("ab");
        dueCount(x, "a and b too", 2, 3);
        x.remove("ab");
        dueCount(x, "a and b stay", 2, 3);
        x.remove("abc");
        dueCount(x, "the root", 2, 1);
    }

    @Says(promise = 13, value = "; 3: ends that are kept")
    static void count3TellsTheEnds() {
        Words x = new Words();
        dueCount(x, "new", 3, 0);
        x.add("abc");
        x.add("bbc");
        dueCount(x, "one end of two leaves", 3, 1);
        x.add("h");
        dueCount(x, "one without letters, too", 3, 2);
        x.remove("abc");
        dueCount(x, "both are used still", 3, 2);
        x.remove("bbc");
        dueCount(x, "one is not", 3, 1);
        dueCount(Tables.allEnds(), "all", 3, 40);
    }

    @Says(promise = 13, value = "; 4: the letters of all of these together")
    static void count4TellsTheLettersOfTheEnds() {
        Words x = new Words();
        dueCount(x, "new", 4, 0);
        x.add("abc");
        dueCount(x, "bc", 4, 2);
        x.add("bbc");
        dueCount(x, "bc, of two leaves", 4, 2);
        x.add("h");
        dueCount(x, "bc and none", 4, 2);
        x.add("cdef");
        dueCount(x, "def too", 4, 5);
        x.add("c");
        dueCount(x, "ef instead of def", 4, 4);
        dueCount(Tables.allEnds(), "forty ends of two", 4, 80);
    }

    @Says(promise = 13, value = "; 5: cells that moved so far, one by one")
    static void count5TellsTheCellsThatMoved() {
        Words x = Tables.of("a", "h", "aa");
        dueCount(x, "none", 5, 0);
        x.add("b");
        dueCount(x, "two at once", 5, 2);
        x.remove("b");
        dueCount(x, "removing moves none", 5, 2);
        x.undo();
        x.undo();
        dueCount(x, "undone", 5, 0);
        x = Tables.of("a", "aa", "b", "bb");
        dueCount(x, "one", 5, 1);
        x.pack();
        dueCount(x, "one more by packing", 5, 2);
    }

    @Says(promise = 13, value = "; 6: the greatest cell that is used")
    static void count6TellsTheGreatestUsedCell() {
        Words x = new Words();
        dueCount(x, "new: the root", 6, 0);
        x.add("b");
        dueCount(x, "b", 6, 3);
        x.add("a");
        dueCount(x, "a is less", 6, 3);
        x.add("h");
        dueCount(x, "h", 6, 9);
        x.remove("h");
        dueCount(x, "without h", 6, 3);
        dueCount(Tables.full(), "full", 6, 159);
        dueCount(Tables.fullButTheLast(), "full but the last", 6, 158);
    }

    @Says(promise = 13, value = "; 7: the letters of all words together")
    static void count7TellsTheLettersOfTheWords() {
        Words x = new Words();
        dueCount(x, "new", 7, 0);
        x.add("abc");
        dueCount(x, "abc", 7, 3);
        x.add("ab");
        dueCount(x, "ab", 7, 5);
        x.add("abcdefghabcd");
        dueCount(x, "abcdefghabcd", 7, 17);
        x.add("h");
        dueCount(x, "h", 7, 18);
        x.remove("abc");
        dueCount(x, "without abc", 7, 15);
    }

    @Says(promise = 13, value = "; 8: the length of the buffer")
    static void count8TellsTheLengthOfTheBuffer() {
        Words x = new Words();
        dueCount(x, "new", 8, 0);
        x.type("h");
        dueCount(x, "one letter", 8, 1);
        x.type(LONGEST);
        dueCount(x, "twelve", 8, 12);
        x.add();
        dueCount(x, "twelve, added", 8, 12);
        x.drop();
        dueCount(x, "eleven", 8, 11);
        x.clearBuffer();
        dueCount(x, "none", 8, 0);
    }

    @Says(promise = 13, value = "; 9: saved states")
    static void count9TellsTheSavedStates() {
        Words x = new Words();
        dueCount(x, "new", 9, 0);
        for (int i = 1; i <= 6; i++) {
            x.pack();
            dueCount(x, "call " + i, 9, i);
        }
        x.pack();
        dueCount(x, "call 7", 9, 6);
        x.undo();
        dueCount(x, "undone", 9, 5);
    }

    @Says(promise = 13, value = "Throws `IllegalArgumentException` if what is not 0 to 9")
    static void countThrowsForMinus1And10() {
        Words x = Tables.four();
        for (int what : new int[] {-1, 10, -2, 11, 1000, Integer.MIN_VALUE, Integer.MAX_VALUE}) {
            Check.dueThrowUnchanged("count(" + what + ")", x, () -> x.count(what), IllegalArgumentException.class);
        }
        Check.due("count(0)", x.count(0), 4);
        Check.due("count(9)", x.count(9), 4);
    }

    // ---- 14 find

    @Says(promise = 14, value = {"Finds the word in the buffer.", "Returns its leaf"})
    static void findReturnsTheLeaf() {
        Words x = Tables.four();
        Check.due("find a", x.find("a"), 1);
        Check.due("find abcd", x.find("abcd"), 3);
        Check.due("find gbcd", x.find("gbcd"), 8);
        Check.due("find h", x.find("h"), 9);
        Words full = Tables.full();
        Check.due("find gaaaaab in a full table", full.find("gaaaaab"), 159);
        Check.due("find a word of twelve letters", full.find("gaaaaaaaaaaa"), 158);
    }

    @Says(promise = 14, value = "; NONE if it is not there")
    static void findReturnsNoneIfTheWordIsNotThere() {
        Words x = Tables.four();
        for (String other : new String[] {"ab", "abc", "abcda", "abce", "b", "hh", "g", "gbc", "gbcda", "gbce",
            "hhhhhhhhhhhh"}) {
            Check.due("find " + other, x.find(other), -1);
        }
        x.remove("a");
        Check.due("find a, which was removed", x.find("a"), -1);
        Check.due("find a in a new one", new Words().find("a"), -1);
    }

    @Says(promise = 14, value = ", or the buffer is empty.")
    static void findReturnsNoneIfTheBufferIsEmpty() {
        Check.due("find() in four", Tables.four().find(), -1);
        Check.due("find() in none", new Words().find(), -1);
        Words x = Tables.of("a");
        x.drop();
        Check.due("find() with a dropped letter", x.find(), -1);
    }

    // ---- 15 longest

    private static void dueLongest(Words x, String word, int want) {
        x.type(word);
        Check.due("longest() of " + word, x.longest(), want);
    }

    @Says(promise = 15, value = "Finds the longest word with which the buffer begins.")
    static void longestFindsTheLongestOfSeveral() {
        Words x = Tables.of("a", "ab", "abc", "abcde");
        dueLongest(x, "abcdef", 5);
        dueLongest(x, "abcde", 5);
        dueLongest(x, "abcd", 3);
        dueLongest(x, "abd", 2);
        dueLongest(x, "ah", 1);
    }

    @Says(promise = 15, value = "with which the buffer begins.")
    static void longestDoesNotFindWordsThatAreLongerThanTheBuffer() {
        Words x = Tables.of("abc", "gbcd");
        dueLongest(x, "ab", -1);
        dueLongest(x, "gbc", -1);
        dueLongest(x, "gbcd", 4);
        dueLongest(x, "gbce", -1);
        x.add("a");
        dueLongest(x, "ab", 1);
    }

    @Says(promise = 15, value = "Returns its length")
    static void longestReturns1To12() {
        Words x = Tables.of(LONGEST, "h");
        dueLongest(x, "h", 1);
        dueLongest(x, "hhhhhhhhhhhh", 1);
        dueLongest(x, LONGEST, 12);
        x.add("aaaaaaaaaaa");
        dueLongest(x, LONGEST, 12);
        x.remove(LONGEST);
        dueLongest(x, LONGEST, 11);
        dueLongest(Tables.full(), LONGEST, 12);
        dueLongest(Tables.full(), "aaaaaaaaaaa", -1);
    }

    @Says(promise = 15, value = "; NONE if there is none.")
    static void longestReturnsNoneIfThereIsNone() {
        Words x = Tables.four();
        Check.due("longest() of an empty buffer", x.longest(), -1);
        dueLongest(x, "b", -1);
        dueLongest(x, "g", -1);
        dueLongest(x, "bcdefgh", -1);
        dueLongest(new Words(), "a", -1);
        Check.due("longest() of an empty buffer without words", new Words().longest(), -1);
    }

    // ---- 16 beginning

    private static void dueBeginning(Words x, String word, int want) {
        x.type(word);
        Check.due("beginning() with " + word, x.beginning(), want);
    }

    @Says(promise = 16, value = "Counts the words that begin with the letters in the buffer.")
    static void beginningCountsTheWordsThatBeginSo() {
        Words x = Tables.four();
        dueBeginning(x, "ab", 1);
        dueBeginning(x, "abcd", 1);
        dueBeginning(x, "abcda", 0);
        dueBeginning(x, "ac", 0);
        dueBeginning(x, "b", 0);
        dueBeginning(x, "gb", 1);
        dueBeginning(x, "gbcd", 1);
        dueBeginning(x, "gbcdd", 0);
        dueBeginning(x, "gc", 0);
        dueBeginning(x, "hh", 0);
        dueBeginning(x, "abcdabcdabcd", 0);
    }

    @Says(promise = 16, value = "Returns how many")
    static void beginningReturnsHowMany() {
        Words x = Tables.of("a", "ab", "abc", "abd", "b", LONGEST);
        dueBeginning(x, "a", 5);
        dueBeginning(x, "ab", 3);
        dueBeginning(x, "aaaaa", 1);
        dueBeginning(x, LONGEST, 1);
        x.remove("abd");
        dueBeginning(x, "ab", 2);
        dueBeginning(Tables.full(), "a", 4);
        dueBeginning(Tables.full(), LONGEST, 1);
        dueBeginning(Tables.full(), "aaaaaaaaaaa", 2);
    }

    @Says(promise = 16, value = "(all words, if it is empty).")
    static void beginningCountsAllWordsIfTheBufferIsEmpty() {
        dueBeginning(Tables.four(), "", 4);
        dueBeginning(Tables.full(), "", 26);
        dueBeginning(Tables.allEnds(), "", 40);
        dueBeginning(Tables.of("h"), "", 1);
        dueBeginning(new Words(), "", 0);
    }

    // ---- 17 ahead

    private static void dueAhead(Words x, String word, int want) {
        x.type(word);
        Check.due("ahead() of " + word, x.ahead(), want);
    }

    @Says(promise = 17, value = {"Counts the words that stand ahead of the buffer in their order (by their letters one by one",
            "Returns how many"})
    static void aheadCountsTheWordsWithLesserLetters() {
        Words x = Tables.four();
        dueAhead(x, "aa", 1);
        dueAhead(x, "abcc", 1);
        dueAhead(x, "abce", 2);
        dueAhead(x, "ac", 2);
        dueAhead(x, "b", 2);
        dueAhead(x, "gbccc", 2);
        dueAhead(x, "gc", 3);
        dueAhead(x, "ha", 4);
        dueAhead(x, "hhhhhhhhhhhh", 4);
        dueAhead(Tables.full(), "hhhhhhhhhhhh", 26);
        dueAhead(Tables.full(), LONGEST, 0);
        dueAhead(Tables.full(), "aaaaaaaaaaab", 1);
    }

    @Says(promise = 17, value = "; a word stands ahead of those that it begins).")
    static void aWordStandsAheadOfThoseThatItBegins() {
        Words x = Tables.of("a", "ab", "abc", "gbc");
        dueAhead(x, "aa", 1);
        dueAhead(x, "aba", 2);
        dueAhead(x, "abca", 3);
        dueAhead(x, "gbca", 4);
        dueAhead(x, "gb", 3);
        dueAhead(x, "g", 3);
        dueAhead(Tables.of("aaaaaaaaaaa"), LONGEST, 1);
        dueAhead(Tables.of(LONGEST), "aaaaaaaaaaa", 0);
    }

    @Says(promise = 17, value = "(the word in the buffer itself does not count).")
    static void theWordInTheBufferDoesNotCount() {
        Words x = Tables.four();
        dueAhead(x, "a", 0);
        dueAhead(x, "abcd", 1);
        dueAhead(x, "gbcd", 2);
        dueAhead(x, "h", 3);
        dueAhead(Tables.of(LONGEST), LONGEST, 0);
    }

    @Says(promise = 17, value = "Counts the words that stand ahead of the buffer")
    static void noWordStandsAheadOfAnEmptyBuffer() {
        dueAhead(Tables.four(), "", 0);
        dueAhead(Tables.full(), "", 0);
        dueAhead(new Words(), "", 0);
        dueAhead(new Words(), "hh", 0);
    }

    // ---- 18 word

    @Says(promise = 18, value = {"Returns a letter of a word.", "Returns 1 to 8"})
    static void wordReturnsEachLetter() {
        Words x = Tables.of("abcdefgh", "ha");
        for (int at = 0; at < 8; at++) {
            Check.due("word(0, " + at + ")", x.word(0, at), at + 1);
        }
        Check.due("word(1, 0)", x.word(1, 0), 8);
        Check.due("word(1, 1)", x.word(1, 1), 1);
    }

    @Says(promise = 18, value = "`rank`: the rank of the word in the order, from 0")
    static void ranksGoByTheOrderFrom0() {
        Tables.four().dueWords("four", "a", "abcd", "gbcd", "h");
        Tables.of("b", "ab", "h", "a", "abb", "aba", "bh").dueWords("seven", "a", "ab", "aba", "abb", "b", "bh", "h");
        Words x = Tables.full();
        Check.dueText("the first of a full table", x.wordAt(0), LONGEST);
        Check.dueText("the second", x.wordAt(1), "aaaaaaaaaaab");
        Check.dueText("the last", x.wordAt(25), "gaaaaab");
    }

    @Says(promise = 18, value = "`at`: 0 to 12, the index of the letter")
    static void wordTakesAt0And12() {
        Words x = Tables.of("hbcdefghabce");
        Check.due("the first letter", x.word(0, 0), 8);
        Check.due("the twelfth letter", x.word(0, 11), 5);
        Check.due("the last index", x.word(0, 12), 0);
    }

    @Says(promise = 18, value = ", 0 behind the last letter")
    static void wordReturns0BehindTheLastLetter() {
        Words x = Tables.four();
        Check.due("behind a", x.word(0, 1), 0);
        Check.due("behind abcd", x.word(1, 4), 0);
        Check.due("behind h", x.word(3, 1), 0);
        Check.due("behind twelve letters", Tables.of(LONGEST).word(0, 12), 0);
        Check.due("behind eleven letters", Tables.of("aaaaaaaaaaa").word(0, 11), 0);
    }

    @Says(promise = 18, value = ", NONE beyond that")
    static void wordReturnsNoneBeyondThat() {
        Words x = Tables.four();
        for (int at = 2; at <= 12; at++) {
            Check.due("a at " + at, x.word(0, at), -1);
        }
        for (int at = 5; at <= 12; at++) {
            Check.due("abcd at " + at, x.word(1, at), -1);
        }
        Check.due("eleven letters at 12", Tables.of("aaaaaaaaaaa").word(0, 12), -1);
    }

    @Says(promise = 18, value = ", or if there are not so many words.")
    static void wordReturnsNoneIfThereAreNotSoManyWords() {
        Words x = Tables.four();
        for (int rank : new int[] {4, 5, 159, 1000, Integer.MAX_VALUE}) {
            for (int at = 0; at <= 12; at++) {
                Check.due("word(" + rank + ", " + at + ")", x.word(rank, at), -1);
            }
        }
        Check.due("the last word", x.word(3, 0), 8);
        Words none = new Words();
        Check.due("word(0, 0) without words", none.word(0, 0), -1);
        Check.due("word(0, 12) without words", none.word(0, 12), -1);
    }

    @Says(promise = 18, value = "Throws `IllegalArgumentException` if rank is below 0")
    static void wordThrowsForRankMinus1() {
        Words x = Tables.four();
        for (int rank : new int[] {-1, -2, -1000, Integer.MIN_VALUE}) {
            for (int at : new int[] {0, 12, -1, 13}) {
                Check.dueThrowUnchanged("word(" + rank + ", " + at + ")", x, () -> x.word(rank, at),
                        IllegalArgumentException.class);
            }
        }
        Check.due("word(0, 0)", x.word(0, 0), 1);
    }

    @Says(promise = 18, value = ", or at is out of range")
    static void wordThrowsForAtMinus1And13() {
        Words x = Tables.four();
        for (int at : new int[] {-1, 13, -2, 14, 16, 1000, Integer.MIN_VALUE, Integer.MAX_VALUE}) {
            for (int rank : new int[] {0, 3, 4, Integer.MAX_VALUE}) {
                Check.dueThrowUnchanged("word(" + rank + ", " + at + ")", x, () -> x.word(rank, at),
                        IllegalArgumentException.class);
            }
        }
    }
}
