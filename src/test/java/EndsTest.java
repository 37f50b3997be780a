/** Ends: what the document says of them under "Words, cells", and promises 11 and 12. */
public final class EndsTest {
    private static final int[] NO_PLACES = {-1, 40, -2, 41, 1000, Integer.MIN_VALUE, Integer.MAX_VALUE};

    public static void main(String[] args) {
        Check.run(EndsTest.class);
    }

    private static void dueEnd(Words x, String when, int place, int uses, String letters) {
        Check.due(when + ": end(" + place + ", 0)", x.end(place, 0), uses);
        Check.due(when + ": end(" + place + ", 1)", x.end(place, 1), uses == 0 ? -1 : letters.length());
        for (int at = 0; at < letters.length(); at++) {
            Check.due(when + ": letter(" + place + ", " + at + ")", x.letter(place, at), letters.charAt(at) - 'a' + 1);
        }
        if (letters.length() < 12) {
            Check.due(when + ": behind the end at " + place, x.letter(place, letters.length()), -1);
        }
    }

    // ---- ends

    @Says("A leaf has an end: the letters of its word that follow behind the letter by which it is a child")
    static void aLeafsEndIsTheRestOfItsWord() {
        Words x = Tables.of("abcdefghabcd");
        dueEnd(x, "behind the first letter", x.cell(2, 4), 1, "bcdefghabcd");
        x.add("abab");
        dueEnd(x, "behind abc", x.cell(x.find("abcdefghabcd"), 4), 1, "defghabcd");
        dueEnd(x, "behind aba", x.cell(x.find("abab"), 4), 1, "b");
        dueEnd(Tables.of("h"), "of a word of one letter", 0, 1, "");
    }

    @Says("(none for the child by 0).")
    static void theChildBy0HasAnEndWithoutLetters() {
        Words x = Tables.of("abc", "a");
        int leaf = x.find("a");
        Check.due("the letter", x.cell(leaf, 2), 0);
        dueEnd(x, "the child by 0", x.cell(leaf, 4), 1, "");
    }

    @Says("Ends are kept in at most 40 places")
    static void thereAreFortyPlacesForEnds() {
        Words x = Tables.allEnds();
        Check.due("count(3)", x.count(3), 40);
        x.type("hh");
        Check.dueThrowUnchanged("add() with the 41st end", x, () -> x.add(), IllegalStateException.class);
        Check.due("ifAdded(0)", x.ifAdded(0), 2);
    }

    @Says(", numbered from 0:")
    static void thePlacesAre0To39() {
        Words x = Tables.allEnds();
        for (int place = 0; place < 40; place++) {
            Check.due("end(" + place + ", 0)", x.end(place, 0), 1);
        }
        Check.dueThrow("end(40, 0)", () -> x.end(40, 0), IndexOutOfBoundsException.class);
        Check.due("the first end's place", Tables.of("abc").cell(2, 4), 0);
    }

    @Says("ends with the same letters (also those without any) are kept once")
    static void endsWithTheSameLettersAreKeptOnce() {
        Words x = Tables.of("abc", "bbc", "cbc", "dbd", "ebcb");
        Check.due("the place of abc's end", x.cell(2, 4), 0);
        Check.due("the place of bbc's end", x.cell(3, 4), 0);
        Check.due("the place of cbc's end", x.cell(4, 4), 0);
        Check.due("the place of dbd's end", x.cell(5, 4), 1);
        Check.due("the place of ebcb's end", x.cell(6, 4), 2);
        Check.due("count(3)", x.count(3), 3);
    }

    @Says("(also those without any)")
    static void endsWithoutLettersAreKeptOnce() {
        Words x = Tables.of("a", "b", "h", "cdd", "cd");
        Check.due("the place of a's end", x.cell(2, 4), 0);
        Check.due("the place of b's end", x.cell(3, 4), 0);
        Check.due("the place of cd's end", x.cell(x.find("cd"), 4), 0);
        dueEnd(x, "all five of them", 0, 5, "");
        Check.due("count(3)", x.count(3), 1);
    }

    @Says(", with how many leaves use them.")
    static void theLeavesThatUseAnEndAreCounted() {
        Words x = Tables.of("abc");
        dueEnd(x, "one leaf", 0, 1, "bc");
        x.add("bbc");
        dueEnd(x, "two leaves", 0, 2, "bc");
        x.remove("abc");
        dueEnd(x, "one leaf again", 0, 1, "bc");
        x.remove("bbc");
        dueEnd(x, "no leaf", 0, 0, "");
    }

    @Says("A new end comes to the lowest free place;")
    static void aNewEndComesToTheLowestFreePlace() {
        Words x = Tables.of("ab", "bc", "cd", "de", "-bc", "-cd");
        dueEnd(x, "the first place that is free", 1, 0, "");
        x.add("ff");
        dueEnd(x, "the first place that was free", 1, 1, "f");
        dueEnd(x, "the second one", 2, 0, "");
        x.add("gg");
        dueEnd(x, "the second one", 2, 1, "g");
        x.add("hh");
        dueEnd(x, "behind all others", 4, 1, "h");
    }

    @Says("A new end comes to the lowest free place;")
    static void anEndThatIsKeptAlreadyLeavesALowerPlaceFree() {
        Words x = Tables.of("ab", "bc", "-ab", "cc");
        dueEnd(x, "the lower place", 0, 0, "");
        dueEnd(x, "the end of both", 1, 2, "c");
    }

    @Says("a place that no leaf uses is free.")
    static void aPlaceThatNoLeafUsesIsFree() {
        Words x = Tables.of("abc", "bbc", "-abc");
        dueEnd(x, "while a leaf uses it", 0, 1, "bc");
        x.remove("bbc");
        dueEnd(x, "free", 0, 0, "");
        Check.due("count(3)", x.count(3), 0);
        Check.due("count(4)", x.count(4), 0);
        Words all = Tables.allEnds();
        all.remove("adad");
        Check.due("ends that are kept", all.count(3), 39);
        all.add("adff");
        dueEnd(all, "used again", 3, 1, "ff");
        Check.due("ends that are kept", all.count(3), 40);
    }

    // ---- 11 end

    @Says(promise = 11, value = {"Returns something of an end that is kept.", "Returns the number."})
    static void endReturnsBothNumbers() {
        Words x = Tables.four();
        dueEnd(x, "abcd's", 0, 1, "cd");
        dueEnd(x, "a's and h's", 1, 2, "");
        dueEnd(x, "gbcd's", 2, 1, "bcd");
    }

    @Says(promise = 11, value = "`place`: 0 to 39")
    static void endTakes0And39() {
        Words x = Tables.allEnds();
        dueEnd(x, "the first place", 0, 1, "aa");
        dueEnd(x, "the last place", 39, 1, "eh");
    }

    @Says(promise = 11, value = "`what`: 0: how many leaves use it, 0 if the place is free")
    static void end0TellsHowManyLeaves() {
        Words x = Tables.four();
        Check.due("two leaves", x.end(1, 0), 2);
        Check.due("one leaf", x.end(2, 0), 1);
        Check.due("a free place", x.end(3, 0), 0);
        Check.due("the last place", x.end(39, 0), 0);
    }

    @Says(promise = 11, value = "; 1: how many letters it has, NONE if the place is free")
    static void end1TellsHowManyLetters() {
        Words x = Tables.four();
        Check.due("an end without letters", x.end(1, 1), 0);
        Check.due("an end of three", x.end(2, 1), 3);
        Check.due("a free place", x.end(3, 1), -1);
        Check.due("the last place", x.end(39, 1), -1);
        Check.due("the most: eleven", Tables.of("abcdefghabcd").end(0, 1), 11);
        x.remove("gbcd");
        Check.due("a place that is free again", x.end(2, 1), -1);
    }

    @Says(promise = 11, value = "Throws `IndexOutOfBoundsException` if there is no such place")
    static void endThrowsForMinus1And40() {
        Words x = Tables.four();
        for (int place : NO_PLACES) {
            for (int what = 0; what <= 1; what++) {
                int number = what;
                Check.dueThrowUnchanged("end(" + place + ", " + what + ")", x, () -> x.end(place, number),
                        IndexOutOfBoundsException.class);
            }
        }
    }

    @Says(promise = 11, value = "Throws `IllegalArgumentException` if what is not 0 or 1")
    static void endThrowsForWhatMinus1And2() {
        Words x = Tables.four();
        for (int what : new int[] {-1, 2, -2, 3, 1000, Integer.MIN_VALUE, Integer.MAX_VALUE}) {
            for (int place : new int[] {0, 3, 39}) {
                Check.dueThrowUnchanged("end(" + place + ", " + what + ")", x, () -> x.end(place, what),
                        IllegalArgumentException.class);
            }
        }
    }

    // ---- 12 letter

    @Says(promise = 12, value = {"Returns a letter of an end.", "Returns 1 to 8"})
    static void letterReturnsEachLetter() {
        Words x = Tables.of("abcdefgh", "bhgfedcba");
        for (int at = 0; at < 7; at++) {
            Check.due("letter(0, " + at + ")", x.letter(0, at), at + 2);
        }
        for (int at = 0; at < 8; at++) {
            Check.due("letter(1, " + at + ")", x.letter(1, at), 8 - at);
        }
    }

    @Says(promise = 12, value = "`place`: 0 to 39")
    static void letterTakesPlaces0And39() {
        Words x = Tables.allEnds();
        Check.due("letter(0, 1)", x.letter(0, 1), 1);
        Check.due("letter(39, 1)", x.letter(39, 1), 8);
    }

    @Says(promise = 12, value = "`at`: 0 to 11, the index of the letter")
    static void letterTakesAt0And11() {
        Words x = Tables.of("abcdefghabcd");
        Check.due("the first letter", x.letter(0, 0), 2);
        Check.due("the last letter of the longest end", x.letter(0, 10), 4);
        Check.due("the last index", x.letter(0, 11), -1);
    }

    @Says(promise = 12, value = "; NONE if there are not so many")
    static void letterReturnsNoneBehindTheLast() {
        Words x = Tables.four();
        Check.due("the last of two", x.letter(0, 1), 4);
        for (int at = 2; at <= 11; at++) {
            Check.due("letter(0, " + at + ")", x.letter(0, at), -1);
        }
        for (int at = 0; at <= 11; at++) {
            Check.due("letter(1, " + at + ") of an end without letters", x.letter(1, at), -1);
        }
    }

    @Says(promise = 12, value = ", or the place is free.")
    static void letterReturnsNoneForAFreePlace() {
        Words x = Tables.four();
        x.remove("gbcd");
        for (int at = 0; at <= 11; at++) {
            Check.due("a place that was used, at " + at, x.letter(2, at), -1);
            Check.due("the last place, at " + at, x.letter(39, at), -1);
        }
    }

    @Says(promise = 12, value = "Throws `IndexOutOfBoundsException` if there is no such place")
    static void letterThrowsForPlacesMinus1And40() {
        Words x = Tables.four();
        for (int place : NO_PLACES) {
            for (int at : new int[] {0, 5, 11}) {
                Check.dueThrowUnchanged("letter(" + place + ", " + at + ")", x, () -> x.letter(place, at),
                        IndexOutOfBoundsException.class);
            }
        }
    }

    @Says(promise = 12, value = "Throws `IllegalArgumentException` if at is out of range")
    static void letterThrowsForAtMinus1And12() {
        Words x = Tables.four();
        for (int at : new int[] {-1, 12, -2, 13, 16, 1000, Integer.MIN_VALUE, Integer.MAX_VALUE}) {
            for (int place : new int[] {0, 3, 39}) {
                Check.dueThrowUnchanged("letter(" + place + ", " + at + ")", x, () -> x.letter(place, at),
                        IllegalArgumentException.class);
            }
        }
    }
}
