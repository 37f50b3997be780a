import java.util.function.Supplier;

/** Promise 22: digest. */
public final class DigestTest {
    private static final String SAYS = "Computes a hash of the whole state.";

    public static void main(String[] args) {
        Check.run(DigestTest.class);
    }

    private static long hashOf(String list) {
        long hash = 2801;
        for (String value : list.split(" ")) {
            hash = 31 * hash + Long.parseLong(value);
        }
        return hash;
    }

    private static String times(int times, String value) {
        return (" " + value).repeat(times);
    }

    // ---- the list, written out

    @Says(promise = 22, value = {"The hash starts at 2801. For each value v of the following list, in order, the hash becomes "
            + "31 * hash + v", "Returns the hash."})
    static void theDigestOfANewObjectWrittenOut() {
        // the counts; the root; find and the three behind it; the words; ifAdded; ifPacked; fullness
        String list = "0 1 1 0 0 0 0 0 0 0" + " 0 1 -1 -1 0 -1 0 0" + " -1 -1 0 0" + times(39, "-1") + " 3 -1 -1 -1" + " 1 "
                + Double.doubleToLongBits(1.0);
        Check.due("digest()", new Words().digest(), hashOf(list));
    }

    @Says(promise = 22, value = "The values are: count(0) to count(9); for each cell that is used, by ascending numbers, its "
            + "number and its properties 0 to 6; for each end that is kept, by ascending places, the place, both numbers, "
            + "and its letters; find; longest; beginning; ahead; for the words with the ranks 0 to 2 the letters at 0 to "
            + "12; ifAdded with 0 to 3; ifPacked; the bits of fullness (as Double.doubleToLongBits); each letter of the "
            + "buffer.")
    static void theDigestOfTwoWordsWrittenOut() {
        Words x = Tables.of("abc", "hg");
        x.type("abch");
        String counts = "2 3 1 2 3 0 9 5 4 2";
        String cells = " 0 1 -1 -1 1 -1 2 2" + " 2 2 0 1 0 0 0 1" + " 9 2 0 8 0 1 0 1";
        String ends = " 0 1 2 2 3" + " 1 1 1 7";
        String looks = " -1 3 0 1";
        String words = " 1 2 3 0" + times(9, "-1") + " 8 7 0" + times(10, "-1") + times(13, "-1");
        // abch behind abc: b and c in common, then two leaves; bc is given up for none
        String wouldBe = " 0 4 0 100 3 " + Double.doubleToLongBits(3.0 / 10.0);
        String buffer = " 1 2 3 8";
        Check.due("digest()", x.digest(), hashOf(counts + cells + ends + looks + words + wouldBe + buffer));
    }

    // ---- the list, from the looks

    private static void dueDigest(String state, Supplier<Words> make, String buffer) {
        State typed = new State(() -> {
            Words x = make.get();
            x.type(buffer);
            return x;
        });
        Check.due("digest() of " + state + " with " + buffer, typed.fresh().digest(), typed.digestOfLooks(buffer));
    }

    @Says(promise = 22, value = "count(0) to count(9); for each cell that is used, by ascending numbers, its number and its "
            + "properties 0 to 6;")
    static void theDigestOfAFullTable() {
        dueDigest("a full table", Tables::full, "gaaaaab");
        dueDigest("a table with high cells", ForecastTest::highCells, "");
        dueDigest("a table that was full", () -> Tables.full().with("-abbbbbbbbbbb", "-abbbbbbbbbba", "gaaaaac"), "ab");
    }

    @Says(promise = 22, value = "for each end that is kept, by ascending places, the place, both numbers, and its letters;")
    static void theDigestOfATableWithAllEnds() {
        dueDigest("all ends", Tables::allEnds, "aaaa");
        dueDigest("all ends but some", () -> Tables.allEnds().with("-aaaa", "-aeae", "-eheh"), "aaaaa");
        dueDigest("ends of several leaves", () -> Tables.of("abc", "bbc", "h", "a", "hg", "-a"), "hg");
    }

    @Says(promise = 22, value = "find; longest; beginning; ahead; for the words with the ranks 0 to 2 the letters at 0 to 12;")
    static void theDigestTellsTheLooks() {
        for (String buffer : new String[] {"", "a", "ab", "abcd", "abcdefgh", "gbcd", "h", "hhhhhhhhhhhh"}) {
            dueDigest("four words", Tables::four, buffer);
        }
        dueDigest("long words", () -> Tables.of("aaaaaaaaaaaa", "aaaaaaaaaaa", "aaaaaaaaaaab"), "aaaaaaaaaaaa");
    }

    @Says(promise = 22, value = "ifAdded with 0 to 3; ifPacked;")
    static void theDigestTellsWhatWouldBe() {
        dueDigest("a word with two moves ahead", () -> Tables.of("a", "h", "aa"), "b");
        dueDigest("a refused word", Tables::full, "gaaaaaaab");
        dueDigest("a refused pack", Tables::fullAndNotToBePacked, "gb");
        dueDigest("a pack with fewer cells", () -> Tables.of("abcd", "abc", "-abc"), "abc");
    }

    @Says(promise = 22, value = "the bits of fullness (as Double.doubleToLongBits);")
    static void theDigestTellsTheBitsOfFullness() {
        // 1, 1/2, 2/3, 2/10, 3/11 (a little above 1/4) and 9/160, and what comes between
        dueDigest("none", Words::new, "");
        dueDigest("b", () -> Tables.of("b"), "");
        dueDigest("a", () -> Tables.of("a"), "");
        dueDigest("h", () -> Tables.of("h"), "");
        dueDigest("h moved", () -> Tables.of("h", "hb", "b", "-hb", "-b"), "");
        dueDigest("high cells", ForecastTest::highCells, "");
        dueDigest("fewer high cells", () -> ForecastTest.highCells().with("-gaaaaaaaaaaa"), "");
        for (int words = 1; words <= 40; words += 3) {
            int some = words;
            dueDigest(words + " words", () -> someWords(some), "ab");
        }
    }

    private static Words someWords(int some) {
        Words x = new Words();
        for (int i = 0; i < some; i++) {
            x.add("" + (char) ('a' + i * 5 % 8) + (char) ('a' + i * 3 % 7) + (char) ('a' + i % 5));
        }
        return x;
    }

    @Says(promise = 22, value = "each letter of the buffer.")
    static void theDigestTellsTheBuffer() {
        for (String buffer : new String[] {"h", "hg", "abcdefghabcd", "hhhhhhhhhhhh"}) {
            dueDigest("none", Words::new, buffer);
        }
        Words x = new Words();
        x.type("ab");
        Words y = new Words();
        y.type("ba");
        Check.dueTrue("ab and ba have other digests", x.digest() != y.digest());
    }

    @Says(promise = 22, value = ", in long arithmetic with overflow.")
    static void theDigestOverflows() {
        // the very first values bring it beyond 63 bits; State reckons without a bound and keeps the lowest 64 bits
        dueDigest("none", Words::new, "");
        boolean below = false;
        boolean above = false;
        Words x = new Words();
        for (int letter = 1; letter <= 8; letter++) {
            x.append(letter);
            below = below || x.digest() < 0;
            above = above || x.digest() > 0;
        }
        Check.dueTrue("some digests are below 0, some above", below && above);
    }

    @Says(promise = 22, value = SAYS)
    static void theDigestTellsStatesApart() {
        Words x = new Words();
        long none = x.digest();
        x.append(1);
        long letter = x.digest();
        x.add();
        long word = x.digest();
        x.remove();
        long saved = x.digest();
        Check.dueTrue("the buffer counts", letter != none);
        Check.dueTrue("words count", word != letter);
        Check.dueTrue("saved states count", saved != letter && saved != word);
        x.undo();
        Check.due("back again", x.digest(), word);
        x.undo();
        Check.due("back again", x.digest(), letter);
        x.drop();
        Check.due("back again", x.digest(), none);
    }

    @Says(rule = 13, value = "the same calls always give the same answers.")
    static void theSameCallsGiveTheSameDigest() {
        Check.due("full", Tables.full().digest(), Tables.full().digest());
        Words x = Tables.allEnds();
        Check.due("twice", x.digest(), x.digest());
    }
}
