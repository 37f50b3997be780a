/** Tables of some kinds that several tests begin with. */
final class Tables {
    private Tables() {
    }

    static Words of(String... words) {
        return new Words().with(words);
    }

    static String times(int times, char letter) {
        return String.valueOf(letter).repeat(times);
    }

    /**
     * Four words whose cells are 0, 1 (a, by 0), 2 (a.., inner), 3 (abcd), 8 (gbcd), 9 (h) and whose ends are cd, none
     * and bcd; the buffer is empty then.
     */
    static Words four() {
        Words words = of("abcd", "a", "h", "gbcd");
        words.clearBuffer();
        return words;
    }

    /**
     * Uses the cells 2 to 152; 1 and 153 to 159 are free, and nothing has moved. The 25 words have 12 letters, all but
     * the first one of them "one" or "other", which are neighbours such as a and b: the seven roots' children come to
     * 2 to 8; behind each of the first six two children, two chains of nine inner cells and four leaves come to the
     * next 24 cells.
     */
    static Words fullButSeven(char one, char other) {
        Words words = new Words();
        for (char first = 'a'; first <= 'g'; first++) {
            words.add(first + times(11, one));
        }
        for (char first = 'a'; first <= 'f'; first++) {
            words.add(first + times(11, other));
            words.add(first + times(10, other) + one);
            words.add(first + times(10, one) + other);
        }
        return words;
    }

    /** Uses the cells 2 to 158, the last two of them by gaaaa's children by a and b. */
    static Words fullButTheLast() {
        return fullButSeven('a', 'b').with("gaaaab");
    }

    /** Uses the cells 2 to 159, the last two of them by gaaaaa's children by a and b. */
    static Words full() {
        return fullButSeven('a', 'b').with("gaaaaab");
    }

    /** As full as the other one, but by their order its words would not come in. */
    static Words fullAndNotToBePacked() {
        return fullButSeven('b', 'c').with("gbbbbbc");
    }

    /** Forty words with forty ends: aaa.., .., ehe..; the leaf of a word hangs by its second letter. */
    static Words allEnds() {
        Words words = new Words();
        for (char first = 'a'; first <= 'e'; first++) {
            for (char second = 'a'; second <= 'h'; second++) {
                words.add("" + first + second + first + second);
            }
        }
        return words;
    }

    /**
     * Uses the cells 2 to 152, as fullButSeven does; but the children of a.. are 9 and 16, by a and h, and those of
     * b.. are 10 and 11, by a and b.
     */
    static Words fullButSevenWithTwoFarApart() {
        Words words = new Words();
        for (char first = 'a'; first <= 'g'; first++) {
            words.add(first + times(11, 'a'));
        }
        words.with("ah" + times(10, 'a'), "bb" + times(10, 'a'));
        for (char first = 'c'; first <= 'f'; first++) {
            words.add(first + times(11, 'b'));
            words.add(first + times(10, 'b') + 'a');
            words.add(first + times(10, 'a') + 'b');
        }
        return words.with("aaaaaaaaaaab", "baaaaaaaaaab", "ahaaaaaaaaab", "bbaaaaaaaaab");
    }

    /**
     * Uses the cells 1 to 158. g.. has one child, by 0, in cell 1; f.. has the offset 1 and two children, by a and b.
     */
    static Words fullButTheLastWithAChildBy0() {
        Words words = of("g", "gh", "-gh", "f" + times(11, 'a'), "f" + times(11, 'b'));
        words.with("c" + times(11, 'a'), "d" + times(11, 'a'), "e" + times(11, 'a'));
        for (char first = 'c'; first <= 'd'; first++) {
            words.with(first + times(11, 'b'), first + times(11, 'c'), first + times(11, 'd'));
            words.with(first + times(10, 'd') + 'a', first + times(10, 'c') + 'a', first + times(10, 'b') + 'a');
            words.add(first + times(10, 'a') + 'b');
        }
        words.with("faaaaaaaaaab", "fbbbbbbbbbba", "ebbbbbbbbbbb", "eccccccccccc");
        return words.with("ecccccca", "ebbbbbbbbbba", "eaaaaaaaaaab");
    }

    /** Uses the cells 3 to 159. The leaf of ghaaaaaaaaaa is g's, 8. */
    static Words fullButTheFirstTwo() {
        Words words = new Words();
        for (char first = 'a'; first <= 'h'; first++) {
            words.add(first == 'g' ? "gh" + times(10, 'a') : first + times(11, 'a'));
        }
        for (char first = 'b'; first <= 'h'; first++) {
            if (first != 'g') {
                words.add(first + times(11, 'b'));
                words.add(first + times(10, 'b') + 'a');
                words.add(first + times(10, 'a') + 'b');
            }
        }
        for (char last = 'c'; last <= 'h'; last++) {
            words.add("h" + times(10, 'a') + last);
        }
        words.remove(times(12, 'a'));
        return words;
    }
}
