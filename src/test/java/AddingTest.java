/** What the document says under "Adding", and promise 5. */
public final class AddingTest {
    public static void main(String[] args) {
        Check.run(AddingTest.class);
    }

    private static void dueEnd(Words x, String word, String letters) {
        int place = x.cell(x.find(word), 4);
        Check.due("the end of " + word + ", its length", x.end(place, 1), letters.length());
        for (int at = 0; at < letters.length(); at++) {
            Check.due("the end of " + word + ", at " + at, x.letter(place, at), letters.charAt(at) - 'a' + 1);
        }
    }

    // ---- the way

    @Says("To add a word one goes from the root along its letters, and behind the last one by 0.")
    static void behindTheLastLetterOneGoesBy0() {
        Words x = Tables.of("abc", "abd");
        x.add("ab");
        int ab = x.cell(x.find("abc"), 1);
        Check.due("the parent of ab's leaf", x.cell(x.find("ab"), 1), ab);
        Check.due("the letter of ab's leaf", x.cell(x.find("ab"), 2), 0);
        x.add("a");
        ab = x.cell(x.find("abc"), 1);
        Check.due("the parent of a's leaf", x.cell(x.find("a"), 1), x.cell(ab, 1));
        Check.due("the letter of a's leaf", x.cell(x.find("a"), 2), 0);
    }

    @Says("At an inner cell without a child by the next letter c: a leaf is put there as its child by c")
    static void aLeafIsPutAsTheChildByTheNextLetter() {
        Words x = new Words();
        Check.due("add a", x.add("a"), 2);
        Check.due("add h", x.add("h"), 9);
        Check.due("add cdef", x.add("cdef"), 4);
        x.dueCell("cdef", 4, 2, 0, 3);
        x.dueCell("the root", 0, 1, -1, -1, 1, -1, 3, 3);
        x = Tables.of("abc", "abd", "abhgfe");
        x.dueCell("abhgfe", x.find(), 2, x.cell(x.find("abc"), 1), 8);
    }

    @Says(", with the rest of the letters as its end.")
    static void theRestOfTheLettersIsTheEnd() {
        Words x = Tables.of("abc", "abd", "abhgfe", "ab", "hgfedcbahgfe");
        dueEnd(x, "abhgfe", "gfe");
        dueEnd(x, "ab", "");
        dueEnd(x, "abd", "");
        dueEnd(x, "hgfedcbahgfe", "gfedcbahgfe");
    }

    // ---- at a leaf

    @Says("At a leaf whose end is other than the rest of the letters: the leaf becomes an inner cell")
    static void aLeafBecomesAnInnerCell() {
        String[] others = {"abcc", "ab", "a", "abcdd", "abd", "ac"};
        for (String other : others) {
            Words x = Tables.of("abcd");
            x.dueCell("abcd alone", 2, 2, 0, 1, 0, 0, 0, 1);
            x.add(other);
            x.dueCell("abcd and " + other, 2, 1, 0, 1, x.cell(2, 3), -1, x.cell(2, 5), 2);
        }
    }

    @Says("At a leaf whose end is other than the rest of the letters:")
    static void aLeafWithTheVeryRestIsTheWordItself() {
        Words x = Tables.of("abcd", "h");
        x.type("abcd");
        Check.dueThrowUnchanged("add() of abcd", x, () -> x.add(), IllegalStateException.class);
        x.type("h");
        Check.dueThrowUnchanged("add() of h", x, () -> x.add(), IllegalStateException.class);
    }

    @Says("(its end is used once less);")
    static void theEndOfTheLeafIsUsedOnceLess() {
        Words x = Tables.of("abb", "bbb");
        Check.due("the uses of bb", x.end(0, 0), 2);
        x.add("bh");
        Check.due("the uses of bb, without bbb's leaf", x.end(0, 0), 1);
        x.add("ah");
        Check.due("the uses of bb, without abb's leaf too", x.end(0, 0), 0);
        Check.due("ends that are kept: b, and the one without letters", x.count(3), 2);
    }

    @Says("for each letter that both begin with in common, from the first one on, an inner cell is put as the only child "
            + "by it, and one goes on there;")
    static void eachLetterInCommonGetsAnInnerCell() {
        Words x = Tables.of("abcde");
        // b, c and d in common come to 3, 4 and 5; e and f fork behind 5
        Check.due("add abcdf", x.add("abcdf"), 7);
        x.dueCell("b", 3, 1, 2, 2, 1, -1, 1, 2);
        x.dueCell("c", 4, 1, 3, 3, 1, -1, 1, 2);
        x.dueCell("d", 5, 1, 4, 4, 1, -1, 2, 2);
        Check.due("inner cells", x.count(2), 5);
        x = Tables.of("abcde", "ac");
        Check.due("inner cells if none is in common", x.count(2), 2);
        x = Tables.of("aaaaaaaaaaaa", "aaaaaaaaaaab");
        Check.due("inner cells if ten are in common", x.count(2), 12);
        x = Tables.of("aaaaaaaaaaaa", "aaaaaaaaaaa");
        Check.due("inner cells if all of the shorter one are", x.count(2), 12);
    }

    @Says("then two leaves are put as children of the cell reached")
    static void twoLeavesArePutBehindTheLettersInCommon() {
        Words x = Tables.of("abcd");
        // b and c in common come to 3 and 4; then d and 0 fork there, at offset 1
        Check.due("add abc", x.add("abc"), 1);
        x.dueCell("the cell reached", 4, 1, 3, 3, 1, -1, 2, 2);
        x.dueCell("abc", 1, 2, 4, 0, 0, 0, 0, 1);
        x.dueCell("abcd", 5, 2, 4, 4, 0, 0, 0, 1);
        x.dueWords("both", "abc", "abcd");
    }

    @Says(", both at once")
    static void bothLeavesArePutAtOnce() {
        Words x = Tables.of("a", "c");
        // 1 and 3 are free, but 2 and 4 behind them are not: one after the other, a's leaf would come to 1
        Check.due("add aa", x.add("aa"), 6);
        Check.due("find a", x.find("a"), 5);
        Check.due("the offset", x.cell(2, 3), 5);
        Check.due("nothing has moved", x.count(5), 0);
    }

    @Says(", by the next letters of both (0 where there is none)")
    static void theNextLettersOfBothTellTheLeaves() {
        Words x = Tables.of("ab", "ah");
        Check.due("the letter of the old word's leaf", x.cell(x.find("ab"), 2), 2);
        Check.due("the letter of the new word's leaf", x.cell(x.find("ah"), 2), 8);
        x = Tables.of("ab", "a");
        Check.due("0 for the new word", x.cell(x.find("a"), 2), 0);
        Check.due("the letter of the old word's leaf", x.cell(x.find("ab"), 2), 2);
        x = Tables.of("a", "ab");
        Check.due("0 for the old word", x.cell(x.find("a"), 2), 0);
        Check.due("the letter of the new word's leaf", x.cell(x.find("ab"), 2), 2);
    }

    @Says(", with the rests as their ends")
    static void theRestsAreTheEndsOfBoth() {
        Words x = Tables.of("abcdef", "abghg");
        dueEnd(x, "abcdef", "def");
        dueEnd(x, "abghg", "hg");
        x = Tables.of("abcdef", "ab");
        dueEnd(x, "abcdef", "def");
        dueEnd(x, "ab", "");
    }

    @Says("(first that of the old word gets its place among the ends, then that of the new one).")
    static void theOldWordsEndGetsItsPlaceFirst() {
        Words x = Tables.of("aab");
        Check.due("add aefg", x.add("aefg"), 7);
        Check.due("the place of the old word's end", x.cell(3, 4), 0);
        Check.due("the place of the new word's end", x.cell(7, 4), 1);
        Check.due("the old word's end", x.letter(0, 0), 2);
        Check.due("the new word's end", x.letter(1, 0), 6);
        // the leaf's own place, 1, is free by then, and 0 too
        Words y = Tables.of("hhh", "aab", "-hhh", "aefg");
        Check.due("the place of the old word's end", y.cell(y.find("aab"), 4), 0);
        Check.due("the place of the new word's end", y.cell(y.find("aefg"), 4), 1);
    }

    // ---- children of a cell without children

    @Says("To put children to a cell without children, by some letters: its offset becomes the least one, 1 or more, with "
            + "which all these cells are free")
    static void theFirstChildrensOffsetIsTheLeastOne() {
        Check.due("add h to none", new Words().add("h"), 9);
        Check.due("add a to none", new Words().add("a"), 2);
        // 0 and h fork: 1 and 9 are free
        Words x = Tables.of("a", "ah");
        Check.due("the offset behind a", x.cell(2, 3), 1);
        // 0 and h fork: 9 is not free, 2 neither, 3 and 11 are
        Words y = Tables.of("h", "a", "ah");
        Check.due("the offset behind a", y.cell(2, 3), 3);
        // b and d fork, where 2, 4 and 5 are used: 3 and 5 behind 1 are not both free, nor 4 and 6, nor 5 and 7
        Words z = Tables.of("a", "c", "dbb", "ddd");
        Check.due("the offset behind d", z.cell(5, 3), 4);
        z.dueCell("dbb", 6, 2, 5, 2);
        z.dueCell("ddd", 8, 2, 5, 4);
    }

    @Says("(and there are such cells in the table).")
    static void cell159IsTheLastForFirstChildren() {
        Words x = Tables.fullButSeven('a', 'b');
        Check.due("add gaaaaab, by b", x.add("gaaaaab"), 159);
        Check.due("the one by a", x.find("gaaaaaaaaaaa"), 158);
        // only 159 is free: the second child would come to 160
        Words y = Tables.fullButTheLast();
        y.type("gaaaabh");
        Check.dueThrowUnchanged("add() of gaaaabh", y, () -> y.add(), IllegalStateException.class);
    }

    // ---- one more child

    @Says("To put a child by c to a cell s with children: if the cell offset plus c is free, it comes there.")
    static void aFreeCellAtOffsetPlusCIsTaken() {
        Words x = Tables.of("a", "aa", "b");
        Check.due("the root's offset", x.cell(0, 3), 4);
        Check.due("add h", x.add("h"), 12);
        x.remove("a");
        x.remove("aa");
        Check.due("the root's offset stays", x.cell(0, 3), 4);
        Check.due("add a, though 2 is free", x.add("a"), 5);
        Check.due("cells that moved", x.count(5), 1);
    }

    @Says("if the cell offset plus c is free, it comes there.")
    static void offsetPlusC159IsTaken() {
        Words x = Tables.fullButTheLast();
        Check.due("the offset behind gaaaa", x.cell(156, 3), 156);
        Check.due("add gaaaac", x.add("gaaaac"), 159);
        x.dueCell("gaaaac", 159, 2, 156, 3);
        Check.due("nothing has moved", x.count(5), 0);
    }

    @Says("(if offset plus c is beyond the table, s has to move).")
    static void offsetPlusC160MovesS() {
        Words x = Tables.full().with("-abbbbbbbbbbb", "-abbbbbbbbbba");
        Check.due("the offset behind gaaaaa", x.cell(157, 3), 157);
        Check.due("the freed cells: the first", x.cell(10, 0), 0);
        Check.due("the freed cells: the last", x.cell(21, 0), 0);
        Check.due("add gaaaaac", x.add("gaaaaac"), 12);
        x.dueCell("s", 157, 1, 156, 1, 9, -1, 3, 3);
        x.dueCell("its child by a", 10, 2, 157, 1);
        x.dueCell("its child by b", 11, 2, 157, 2);
        x.dueCell("its child by c", 12, 2, 157, 3);
        x.dueCell("where its children were", 158, 0);
        x.dueCell("where its children were", 159, 0);
        Check.due("two cells moved", x.count(5), 2);
    }

    @Says("(if offset plus c is beyond the table, s has to move).")
    static void farBeyondTheTableSMovesToo() {
        Words x = Tables.full().with("-abbbbbbbbbbb", "-abbbbbbbbbba");
        // 157 and h are 165; 10, 11 and 17 are free
        Check.due("add gaaaaah", x.add("gaaaaah"), 17);
        Check.due("two cells moved", x.count(5), 2);
    }

    // ---- who moves

    @Says({"Otherwise there is a clash with the cell t that is the parent of the cell there",
            "If t has fewer children than s has with the new one, t moves"})
    static void tMovesIfItHasFewerByOne() {
        Words x = Tables.of("a", "h", "aa");
        // b wants 3, a child of 2, which has two children; the root has three with b
        x.dueCell("t", 2, 1, 0, 1, 3, -1, 2, 2);
        Check.due("add b", x.add("b"), 3);
        x.dueCell("t", 2, 1, 0, 1, 5, -1, 2, 2);
        x.dueCell("s", 0, 1, -1, -1, 1, -1, 3, 4);
        x.dueCell("the new child", 3, 2, 0, 2, 0, 0, 0, 1);
        Check.due("t's two cells moved", x.count(5), 2);
    }

    @Says(", otherwise s does.")
    static void sMovesIfTHasAsMany() {
        Words x = Tables.of("a", "aa");
        // b wants 3, a child of 2, which has two children; the root has two with b
        Check.due("add b", x.add("b"), 6);
        x.dueCell("s", 0, 1, -1, -1, 4, -1, 2, 3);
        x.dueCell("t", 5, 1, 0, 1, 3, -1, 2, 2);
        Check.due("s's one cell moved", x.count(5), 1);
    }

    @Says(", otherwise s does.")
    static void sMovesIfTHasMore() {
        Words x = Tables.of("a", "aa", "ab");
        Check.due("t's children", x.cell(2, 5), 3);
        // b wants 3; 3, 4 and 5 are t's, so the root's children come to 6 and 7 behind its offset 5
        Check.due("add b", x.add("b"), 7);
        x.dueCell("s", 0, 1, -1, -1, 5, -1, 2, 4);
        x.dueCell("t", 6, 1, 0, 1, 3, -1, 3, 3);
        Check.due("s's one cell moved", x.count(5), 1);
    }

    // ---- moving t

    @Says("Moving t: its offset becomes the least one, 1 or more, with which all cells for its children are free")
    static void tsNewOffsetIsTheLeastOne() {
        Words x = Tables.of("a", "h", "aa");
        // t's children are 3 and 4, by 0 and a; 1, 5, 6, 7 and 8 are free, and 2 behind 1 is not
        x.add("b");
        Check.due("t's offset", x.cell(2, 3), 5);
        Words y = Tables.of("a", "h", "aa", "g", "f");
        // 7 and 8 are used now, so 5 and 6 are the only two side by side below 10
        y.add("b");
        Check.due("t's offset", y.cell(2, 3), 5);
        Words z = Tables.of("a", "h", "aa", "g", "e");
        // 6 is used too: 10 and 11
        z.add("b");
        Check.due("t's offset", z.cell(2, 3), 10);
    }

    @Says("its offset becomes the least one, 1 or more, with which all cells for its children are free")
    static void offset158IsTheLastForAChildByA() {
        Words x = Tables.fullButTheLast();
        // c wants 22, which is the one child of 9, by a; only 159 is free for that
        x.dueCell("t", 9, 1, 2, 1, 21, -1, 1, 2);
        Check.due("add abbbbbbbbbbc", x.add("abbbbbbbbbbc"), 22);
        x.dueCell("t", 9, 1, 2, 1, 158, -1, 1, 2);
        x.dueCell("its child", 159, 1, 9, 1);
        Check.due("one cell moved", x.count(5), 1);
    }

    @Says("its offset becomes the least one, 1 or more, with which all cells for its children are free")
    static void offset159IsTheLastForAChildBy0() {
        Words x = Tables.fullButTheLastWithAChildBy0();
        // 0 wants 1, which is the one child of g.., by 0; only 159 is free for that
        x.dueCell("s", 7, 1, 0, 6, 1, -1, 2, 4);
        x.dueCell("t", 8, 1, 0, 7, 1, -1, 1, 1);
        Check.due("cells that are used", x.count(1), 159);
        Check.due("add f", x.add("f"), 1);
        x.dueCell("t", 8, 1, 0, 7, 159, -1, 1, 1);
        x.dueCell("its child", 159, 2, 8, 0);
        Check.due("one cell moved", x.count(5), 1);
        Check.due("cells that are used", x.count(1), 160);
        Check.dueDouble("fullness()", x.fullness(), 1.0);
    }

    @Says("(cells in which its children are now are not)")
    static void tsOwnCellsAreNotFreeForIt() {
        Words x = Tables.of("a", "h", "aa");
        // with 4, its child's own cell, t's children could come to 4 and 5
        x.add("b");
        x.dueCell("t's own cell", 4, 0);
        x.dueCell("t's first child", 5, 2, 2, 0);
        x.dueCell("t's second child", 6, 2, 2, 1);
    }

    @Says("; the children move there, by ascending letters")
    static void theChildrenMoveToTheNewOffset() {
        Words x = Tables.of("c", "ca", "cd", "g", "h");
        // a wants 2; c's children by 0, a and d are three, the root's are four with a
        x.dueCell("t", 4, 1, 0, 3, 1, -1, 3, 3);
        Check.due("add a", x.add("a"), 2);
        x.dueCell("t", 4, 1, 0, 3, 6, -1, 3, 3);
        x.dueCell("its child by 0", 6, 2, 4, 0, 0, 0, 0, 1);
        x.dueCell("its child by a", 7, 2, 4, 1, 0, 0, 0, 1);
        x.dueCell("its child by d", 10, 2, 4, 4, 0, 0, 0, 1);
        Check.due("three cells moved", x.count(5), 3);
        x.dueWords("with a", "a", "c", "ca", "cd", "g", "h");
    }

    @Says("; the children move there, by ascending letters")
    static void theChildByTheLastLetterMovesToo() {
        Words x = Tables.of("a", "ah", "b");
        // h wants 9, which is ah's; a's children are two, the root's are three with h
        x.dueCell("t", 2, 1, 0, 1, 1, -1, 2, 2);
        Check.due("add h", x.add("h"), 9);
        x.dueCell("h", 9, 2, 0, 8, 0, 0, 0, 1);
        x.dueCell("t", 2, 1, 0, 1, 4, -1, 2, 2);
        x.dueCell("its child by 0", 4, 2, 2, 0, 0, 0, 0, 1);
        x.dueCell("its child by h", 12, 2, 2, 8, 0, 0, 0, 1);
        Check.due("two cells moved", x.count(5), 2);
        x.dueWords("with h", "a", "ah", "b", "h");
    }

    @Says("(with all that they have; their own children have them as parents then, whose cells stay)")
    static void movedChildrenKeepWhatTheyHave() {
        Words x = Tables.of("h", "adh", "acb", "aca");
        // a's children are 4, an inner cell (c) with the children 6 and 7, and 5, a leaf (d) with the end h
        x.dueCell("the inner one", 4, 1, 2, 3, 5, -1, 2, 2);
        x.dueCell("the leaf", 5, 2, 2, 4, 0, x.cell(5, 4), 0, 1);
        int place = x.cell(5, 4);
        // c wants 4
        Check.due("add c", x.add("c"), 4);
        x.dueCell("t", 2, 1, 0, 1, 7, -1, 2, 3);
        x.dueCell("the inner one, moved", 10, 1, 2, 3, 5, -1, 2, 2);
        x.dueCell("the leaf, moved", 11, 2, 2, 4, 0, place, 0, 1);
        dueEnd(x, "adh", "h");
        x.dueCell("the inner one's child by a, whose cell stays", 6, 2, 10, 1);
        x.dueCell("the inner one's child by b, whose cell stays", 7, 2, 10, 2);
        Check.due("two cells moved", x.count(5), 2);
        x.dueWords("with c", "aca", "acb", "adh", "c", "h");
    }

    @Says("; the cells where they were are free;")
    static void theCellsWhereTheyWereAreFree() {
        Words x = Tables.of("a", "h", "aa", "b");
        // t's children were 3, where b is now, and 4
        x.dueCell("where t's second child was", 4, 0, -1, -1, 0, -1, 0, 0);
        Check.due("add c, which comes there", x.add("c"), 4);
        Check.due("no more cells moved", x.count(5), 2);
    }

    @Says("then the new child comes to its place")
    static void theNewChildComesToOffsetPlusC() {
        Words x = Tables.of("a", "h", "aa");
        Check.due("add bcd", x.add("bcd"), 3);
        x.dueCell("bcd", 3, 2, 0, 2, 0, 1, 0, 1);
        dueEnd(x, "bcd", "cd");
    }

    @Says("(the child by c of s, which may have moved itself).")
    static void sMayMoveAmongTsChildren() {
        Words x = Tables.of("a", "aa", "d");
        // ab wants 5, a child of the root, which has two children; a's cell has three then and is one of both
        Check.due("add ab", x.add("ab"), 5);
        x.dueCell("t, the root", 0, 1, -1, -1, 5, -1, 2, 4);
        x.dueCell("s, which has moved", 6, 1, 0, 1, 3, -1, 3, 3);
        x.dueCell("the other one that has moved", 9, 2, 0, 4);
        x.dueCell("the new child", 5, 2, 6, 2);
        x.dueCell("s's child by 0", 3, 2, 6, 0);
        x.dueCell("s's child by a", 4, 2, 6, 1);
        x.dueCell("where s was", 2, 0);
        Check.due("two cells moved", x.count(5), 2);
    }

    @Says("(the child by c of s, which may have moved itself).")
    static void sItselfMayStandWhereTheNewChildComes() {
        Words x = Tables.of("a", "ah");
        // a's cell 2 has offset 1, so that aa wants 2
        Check.due("add aa", x.add("aa"), 2);
        x.dueCell("t, the root", 0, 1, -1, -1, 2, -1, 1, 3);
        x.dueCell("s, which has moved", 3, 1, 0, 1, 1, -1, 3, 3);
        x.dueCell("the new child", 2, 2, 3, 1);
        x.dueCell("s's child by 0", 1, 2, 3, 0);
        x.dueCell("s's child by h", 9, 2, 3, 8);
        Check.due("one cell moved", x.count(5), 1);
    }

    // ---- moving s

    @Says("Moving s: likewise, with an offset with which the cells for its children and for the new one are free.")
    static void sMovesToWhereTheNewOneHasRoomToo() {
        Words x = Tables.of("a", "aa", "ac");
        // the root's child alone would have room in 5, but 6 behind it is ac's
        Check.due("add b", x.add("b"), 8);
        x.dueCell("the root's child", 7, 1, 0, 1, 3, -1, 3, 3);
        x.dueCell("ac", 6, 2, 7, 3);
        x.dueCell("the cell that was free", 5, 0);
        x.dueCell("where the root's child was", 2, 0);
        x.dueWords("with b", "a", "aa", "ac", "b");
    }

    @Says("Moving s: likewise")
    static void ssOwnCellsAreNotFreeForIt() {
        Words x = Tables.of("ed", "e");
        x.dueCell("the root", 0, 1, -1, -1, 1, -1, 1, 2);
        x.dueCell("the root's child", 6, 1, 0, 5, 1, -1, 2, 2);
        // d wants 5, which is ed's; with 6, its child's own cell, the root's children could come to 6 and 7
        Check.due("add d", x.add("d"), 7);
        x.dueCell("the root", 0, 1, -1, -1, 3, -1, 2, 3);
        x.dueCell("the root's child", 8, 1, 0, 5, 1, -1, 2, 2);
        x.dueCell("where it was", 6, 0);
        x.dueCell("ed, whose cell stays", 5, 2, 8, 4);
        x.dueCell("e, whose cell stays", 1, 2, 8, 0);
        Check.due("one cell moved", x.count(5), 1);
    }

    @Says("Moving s: likewise")
    static void sMovesWithAllThatItsChildrenHave() {
        Words x = Tables.of("a", "aa", "ab", "ac");
        Check.due("add b", x.add("b"), 8);
        x.dueCell("s", 0, 1, -1, -1, 6, -1, 2, 5);
        x.dueCell("its child that has moved", 7, 1, 0, 1, 3, -1, 4, 4);
        for (int cell = 3; cell <= 6; cell++) {
            Check.due("the parent of that one's child " + cell, x.cell(cell, 1), 7);
        }
        x.dueWords("with b", "a", "aa", "ab", "ac", "b");
    }

    @Says("Moving s: likewise")
    static void sMovesWithItsChildByTheLastLetter() {
        Words x = Tables.of("h", "hb");
        // b wants 3, which is hb's; h's children are two, and so are the root's with b
        x.dueCell("t", 9, 1, 0, 8, 1, -1, 2, 2);
        Check.due("add b", x.add("b"), 4);
        x.dueCell("s", 0, 1, -1, -1, 2, -1, 2, 3);
        x.dueCell("its child by h", 10, 1, 0, 8, 1, -1, 2, 2);
        x.dueCell("where that one was", 9, 0);
        x.dueCell("h, whose cell stays", 1, 2, 10, 0);
        x.dueCell("hb, whose cell stays", 3, 2, 10, 2);
        Check.due("one cell moved", x.count(5), 1);
        x.dueWords("with b", "b", "h", "hb");
    }

    // ---- refused words

    private static void dueRefused(Words x, String word) {
        x.type(word);
        Check.due("ifAdded(0) with " + word, x.ifAdded(0), 2);
        Check.dueThrowUnchanged("add() of " + word, x, () -> x.add(), IllegalStateException.class);
        Check.due("find " + word, x.find(), -1);
    }

    @Says("If a cell")
    static void aWordIsRefusedWithoutACellForALetterInCommon() {
        dueRefused(Tables.full(), "gaaaaaaab");
    }

    @Says("If a cell")
    static void aWordIsRefusedWithoutACellForALetterInCommonThoughItsLeavesHadRoom() {
        Words x = Tables.fullButTheFirstTwo();
        Check.dueText("free cells", x.freeCells(), "1 2");
        // the common h needs 9 or a greater cell; the leaves by 0 and a would come to 1 and 2
        dueRefused(x, "gh");
        Check.due("add a, which comes to 2", x.add("a"), 2);
    }

    @Says("If a cell")
    static void aWordIsRefusedWithoutTwoCellsForTheLeaves() {
        dueRefused(Tables.fullButTheLast(), "gaaaabc");
    }

    @Says("is missing on the way, the word is refused.")
    static void aWordIsRefusedAlsoWhenOnlyTheLastCellsAreMissing() {
        // 159 would do for the second letter in common, but no two are left for the leaves
        Words x = Tables.fullButTheLast();
        dueRefused(x, "gaaaaaab");
        Check.due("159 is free as before", x.cell(159, 0), 0);
        Check.due("ends as before", x.count(3), 2);
        Check.due("add gaaaac, which comes to 159", x.add("gaaaac"), 159);
    }

    @Says("If a cell")
    static void aWordIsRefusedIfSHasToMoveAndCannot() {
        dueRefused(Tables.full(), "gaaaaac");
    }

    @Says("If a cell")
    static void aWordIsRefusedIfSCannotMoveThoughTCould() {
        Words x = Tables.fullButSeven('a', 'b');
        // aaaah wants 31, a child of 30, which has as many children as s has then; seven free cells are no room for
        // a and h, but for a and b
        x.dueCell("s", 23, 1, 22, 1, 23, -1, 1, 2);
        x.dueCell("t", 30, 1, 29, 1, 30, -1, 2, 2);
        dueRefused(x, "aaaah");
        Check.dueText("free cells", x.freeCells(), "1 153 154 155 156 157 158 159");
    }

    @Says("If a cell")
    static void aWordIsRefusedIfTCannotMoveThoughSCould() {
        Words x = Tables.fullButSevenWithTwoFarApart();
        // bg wants 16, a child of a.., which has two children, by a and h; b.. has three then, by a, b and g, for which
        // seven free cells are room
        x.dueCell("s", 3, 1, 0, 2, 9, -1, 2, 4);
        x.dueCell("t", 2, 1, 0, 1, 8, -1, 2, 4);
        Check.due("the parent of 16", x.cell(16, 1), 2);
        dueRefused(x, "bg");
    }

    @Says("If a cell")
    static void cell1IsNoRoomForALetter() {
        // 1 is free, but only a child by 0 can come there
        Words x = Tables.full();
        Check.due("cells that are used", x.count(1), 159);
        x.dueCell("the first one", 1, 0);
        dueRefused(x, "h");
    }

    @Says(", or a place for an end,")
    static void aWordIsRefusedWithoutAPlaceForItsEnd() {
        Words x = Tables.allEnds();
        dueRefused(x, "hh");
        dueRefused(x, "h");
        Check.due("add habab.., whose end is kept already", x.cell(x.add("hab"), 4), 1);
    }

    @Says(", or a place for an end,")
    static void aSplitLeafLeavesItsOwnPlaceForOneOfTheEnds() {
        // aaaa's end is aa, and no other leaf uses it
        dueRefused(Tables.allEnds(), "aabc");
        Words x = Tables.allEnds();
        Check.due("add aaab: both have ends without letters", x.cell(x.add("aaab"), 4), 0);
        Words y = Tables.allEnds();
        y.add("aabab");
        Check.due("the old word's end gets the place", y.cell(y.find("aaaa"), 4), 0);
        Check.due("the new word's end is kept already", y.cell(y.find("aabab"), 4), 1);
    }

    @Says(", or a place for an end,")
    static void aSplitLeafLeavesNoPlaceIfAnotherLeafUsesItsEnd() {
        Words x = Tables.allEnds().with("fab");
        Check.due("the uses of ab", x.end(1, 0), 2);
        dueRefused(x, "fac");
        dueRefused(x, "f");
        // aa is kept already, but b is not
        dueRefused(x, "fcaa");
        Check.due("the uses of ab", x.end(1, 0), 2);
    }

    // ---- 5 add

    @Says(promise = 5, value = "Adds the word in the buffer")
    static void addAddsTheWord() {
        Words x = Tables.of("bcd", "a", "bc");
        x.dueWords("three words", "a", "bc", "bcd");
        Check.due("find bc", x.cell(x.find("bc"), 0), 2);
    }

    @Says(promise = 5, value = ", which stays.")
    static void theBufferStaysWhenItsWordIsAdded() {
        Words x = Tables.of("abc");
        Check.due("count(8)", x.count(8), 3);
        Check.due("find()", x.find(), 2);
        Check.due("append(4)", x.append(4), 4);
        x.add();
        x.dueWords("one letter more", "abc", "abcd");
    }

    @Says(promise = 5, value = "Undoable.")
    static void addIsUndoable() {
        Words x = Tables.four();
        x.type("bcd");
        long before = x.digest();
        x.add();
        Check.due("count(9)", x.count(9), 5);
        Check.due("undo()", x.undo(), 4);
        Check.due("digest()", x.digest(), before);
    }

    @Says(promise = 5, value = "Returns its leaf.")
    static void addReturnsTheLeaf() {
        String[] all = {"a", "aa", "d", "ab", "b", "c", "abcd", "abce", "abc", "hhhh"};
        Words x = new Words();
        for (String word : all) {
            int leaf = x.add(word);
            Check.due("find " + word, x.find(), leaf);
            Check.due("the kind of what add of " + word + " returned", x.cell(leaf, 0), 2);
        }
    }

    @Says(promise = 5, value = "Throws `IllegalArgumentException` if the buffer is empty")
    static void addThrowsIfTheBufferIsEmpty() {
        Words x = new Words();
        Check.dueThrowUnchanged("add() to none", x, () -> x.add(), IllegalArgumentException.class);
        x.add("a");
        x.drop();
        Check.dueThrowUnchanged("add() with a dropped letter", x, () -> x.add(), IllegalArgumentException.class);
        x.type("ab");
        x.clearBuffer();
        Check.dueThrowUnchanged("add() with a cleared buffer", x, () -> x.add(), IllegalArgumentException.class);
    }

    @Says(promise = 5, value = "Throws `IllegalStateException` if the word is there already")
    static void addThrowsIfTheWordIsThere() {
        String[] all = {"abc", "ab", "abd", "h", "hhhhhhhhhhhh"};
        Words x = Tables.of(all);
        for (String word : all) {
            x.type(word);
            Check.dueThrowUnchanged("add() of " + word, x, () -> x.add(), IllegalStateException.class);
        }
        x.remove("ab");
        Check.due("add ab when it was removed", x.cell(x.add("ab"), 0), 2);
    }

    @Says(promise = 5, value = ", or it is refused")
    static void addThrowsIfTheWordIsRefused() {
        Words x = Tables.full();
        x.type("h");
        Check.dueThrowUnchanged("add() without a cell", x, () -> x.add(), IllegalStateException.class);
        Check.due("count(9)", x.count(9), 6);
        Words y = Tables.allEnds();
        y.type("h");
        Check.dueThrowUnchanged("add() without a place for the end", y, () -> y.add(), IllegalStateException.class);
    }
}
