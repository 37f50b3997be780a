/** Promises 10 to 18: cell, end, letter, count, find, longest, beginning, ahead, word. */
public final class LooksTest {
    public static void main(String[] args) {
        cell();
        end();
        letter();
        count();
        find();
        longest();
        beginning();
        ahead();
        word();
        Check.finish("LooksTest");
    }

    /** The root's children stand at offset 1: the inner cell 2 (a), which has its own at offset 1 too, 8 (g), 9 (h). */
    private static PackedWords some() {
        PackedWords x = new PackedWords();
        Check.add(x, "abcd");
        Check.add(x, "a");
        Check.add(x, "h");
        Check.add(x, "gbcd");
        x.clearBuffer();
        return x;
    }

    private static void cell() {
        PackedWords x = some();
        // abcd's end bcd is given up when a comes; cd gets its place then, and the end without letters the next one
        int[][] due = {
            {0, 1, -1, -1, 1, -1, 3, 4},
            {1, 2, 2, 0, 0, 1, 0, 1},
            {2, 1, 0, 1, 1, -1, 2, 2},
            {3, 2, 2, 2, 0, 0, 0, 1},
            {8, 2, 0, 7, 0, 2, 0, 1},
            {9, 2, 0, 8, 0, 1, 0, 1},
            {4, 0, -1, -1, 0, -1, 0, 0},
            {159, 0, -1, -1, 0, -1, 0, 0},
        };
        for (int[] row : due) {
            for (int what = 0; what <= 6; what++) {
                Check.due("cell(" + row[0] + ", " + what + ")", x.cell(row[0], what), row[what + 1]);
            }
        }
        cellThrows(x);
    }

    private static void cellThrows(PackedWords x) {
        int[] noCells = {-1, 160, -2, 1000, Integer.MIN_VALUE, Integer.MAX_VALUE};
        int[] noWhats = {-1, 7, 1000, Integer.MIN_VALUE, Integer.MAX_VALUE};
        for (int cell : noCells) {
            Check.dueThrowUnchanged("cell(" + cell + ", 0)", x, () -> x.cell(cell, 0),
                    IndexOutOfBoundsException.class);
            for (int what : noWhats) {
                Check.dueThrow("cell(" + cell + ", " + what + ")", () -> x.cell(cell, what),
                        IndexOutOfBoundsException.class);
            }
        }
        for (int what : noWhats) {
            Check.dueThrowUnchanged("cell(0, " + what + ")", x, () -> x.cell(0, what),
                    IllegalArgumentException.class);
            Check.dueThrow("cell(159, " + what + ")", () -> x.cell(159, what), IllegalArgumentException.class);
        }
    }

    private static void end() {
        PackedWords x = some();
        int[][] due = {{0, 1, 2}, {1, 2, 0}, {2, 1, 3}, {3, 0, -1}, {39, 0, -1}};
        for (int[] row : due) {
            Check.due("end(" + row[0] + ", 0)", x.end(row[0], 0), row[1]);
            Check.due("end(" + row[0] + ", 1)", x.end(row[0], 1), row[2]);
        }
        int[] noPlaces = {-1, 40, -2, 1000, Integer.MIN_VALUE, Integer.MAX_VALUE};
        int[] noWhats = {-1, 2, 1000, Integer.MIN_VALUE, Integer.MAX_VALUE};
        for (int place : noPlaces) {
            Check.dueThrowUnchanged("end(" + place + ", 0)", x, () -> x.end(place, 0),
                    IndexOutOfBoundsException.class);
            Check.dueThrow("end(" + place + ", 2)", () -> x.end(place, 2), IndexOutOfBoundsException.class);
        }
        for (int what : noWhats) {
            Check.dueThrowUnchanged("end(0, " + what + ")", x, () -> x.end(0, what), IllegalArgumentException.class);
            Check.dueThrow("end(39, " + what + ")", () -> x.end(39, what), IllegalArgumentException.class);
        }
    }

    private static void letter() {
        PackedWords x = some();
        int[][] due = {{0, 0, 3}, {0, 1, 4}, {0, 2, -1}, {0, 11, -1}, {1, 0, -1}, {2, 0, 2}, {2, 1, 3}, {2, 2, 4},
            {2, 3, -1}, {3, 0, -1}, {39, 11, -1}};
        for (int[] row : due) {
            Check.due("letter(" + row[0] + ", " + row[1] + ")", x.letter(row[0], row[1]), row[2]);
        }
        int[] noPlaces = {-1, 40, -2, 1000, Integer.MIN_VALUE, Integer.MAX_VALUE};
        int[] noAts = {-1, 12, 16, 1000, Integer.MIN_VALUE, Integer.MAX_VALUE};
        for (int place : noPlaces) {
            Check.dueThrowUnchanged("letter(" + place + ", 0)", x, () -> x.letter(place, 0),
                    IndexOutOfBoundsException.class);
            Check.dueThrow("letter(" + place + ", 12)", () -> x.letter(place, 12), IndexOutOfBoundsException.class);
        }
        for (int at : noAts) {
            Check.dueThrowUnchanged("letter(0, " + at + ")", x, () -> x.letter(0, at),
                    IllegalArgumentException.class);
        }
        PackedWords y = new PackedWords();
        Check.add(y, "abcdefghabcd");
        for (int at = 0; at < 11; at++) {
            Check.due("letter " + at + " of the longest end", y.letter(0, at), (at + 1) % 8 + 1);
        }
        Check.due("behind the longest end", y.letter(0, 11), -1);
    }

    private static void count() {
        PackedWords x = some();
        int[] due = {4, 6, 2, 3, 5, 0, 9, 10, 0, 4};
        for (int what = 0; what < due.length; what++) {
            Check.due("count(" + what + ")", x.count(what), due[what]);
        }
        Check.type(x, "abc");
        Check.due("count(8)", x.count(8), 3);
        int[] noWhats = {-1, 10, -2, 1000, Integer.MIN_VALUE, Integer.MAX_VALUE};
        for (int what : noWhats) {
            Check.dueThrowUnchanged("count(" + what + ")", x, () -> x.count(what), IllegalArgumentException.class);
        }
    }

    private static void find() {
        PackedWords x = some();
        Check.due("find() of nothing", x.find(), -1);
        Check.due("find a", Check.find(x, "a"), 1);
        Check.due("find abcd", Check.find(x, "abcd"), 3);
        Check.due("find h", Check.find(x, "h"), 9);
        Check.due("find gbcd", Check.find(x, "gbcd"), 8);
        String[] others = {"ab", "abc", "abcda", "b", "hh", "g", "gbcda", "gbce", "hhhhhhhhhhhh"};
        for (String other : others) {
            Check.due("find " + other, Check.find(x, other), -1);
        }
        x.clearBuffer();
        Check.due("find() of nothing", x.find(), -1);
    }

    private static void longest() {
        PackedWords x = some();
        Check.due("longest() of nothing", x.longest(), -1);
        Object[][] due = {{"a", 1}, {"ab", 1}, {"abc", 1}, {"abcd", 4}, {"abcdh", 4}, {"abcdabcdabcd", 4}, {"ac", 1},
            {"b", -1}, {"h", 1}, {"hh", 1}, {"g", -1}, {"gbc", -1}, {"gbcd", 4}, {"gbcdg", 4}, {"gbce", -1}};
        for (Object[] row : due) {
            Check.type(x, (String) row[0]);
            Check.due("longest() of " + row[0], x.longest(), (Integer) row[1]);
        }
        PackedWords y = new PackedWords();
        Check.add(y, "aaaaaaaaaaaa");
        Check.due("the buffer's own word", y.longest(), 12);
        Check.add(y, "aaaaaaaaaaa");
        Check.type(y, "aaaaaaaaaaaa");
        Check.due("the longer one", y.longest(), 12);
        Check.remove(y, "aaaaaaaaaaaa");
        Check.due("the shorter one", y.longest(), 11);
    }

    private static void beginning() {
        PackedWords x = some();
        Check.due("beginning() of nothing", x.beginning(), 4);
        Object[][] due = {{"a", 2}, {"ab", 1}, {"abcd", 1}, {"abcda", 0}, {"ac", 0}, {"b", 0}, {"g", 1}, {"gb", 1},
            {"gbcd", 1}, {"gbcdd", 0}, {"gc", 0}, {"h", 1}, {"hh", 0}, {"abcdabcdabcd", 0}};
        for (Object[] row : due) {
            Check.type(x, (String) row[0]);
            Check.due("beginning() of " + row[0], x.beginning(), (Integer) row[1]);
        }
        Check.due("beginning() without words", new PackedWords().beginning(), 0);
    }

    private static void ahead() {
        PackedWords x = some();
        Check.due("ahead() of nothing", x.ahead(), 0);
        Object[][] due = {{"a", 0}, {"aa", 1}, {"ab", 1}, {"abcc", 1}, {"abcd", 1}, {"abcda", 2}, {"abce", 2},
            {"ac", 2}, {"b", 2}, {"g", 2}, {"gbcd", 2}, {"gbccc", 2}, {"gbcda", 3}, {"gc", 3}, {"h", 3}, {"ha", 4},
            {"hhhhhhhhhhhh", 4}};
        for (Object[] row : due) {
            Check.type(x, (String) row[0]);
            Check.due("ahead() of " + row[0], x.ahead(), (Integer) row[1]);
        }
        Check.due("ahead() without words", new PackedWords().ahead(), 0);
    }

    private static void word() {
        PackedWords x = some();
        Check.dueWords("words by their order", x, "a", "abcd", "gbcd", "h");
        int[] abcd = {1, 2, 3, 4, 0, -1, -1, -1, -1, -1, -1, -1, -1};
        int[] single = {1, 0, -1, -1, -1, -1, -1, -1, -1, -1, -1, -1, -1};
        for (int at = 0; at <= 12; at++) {
            Check.due("word(0, " + at + ")", x.word(0, at), single[at]);
            Check.due("word(1, " + at + ")", x.word(1, at), abcd[at]);
            Check.due("word(4, " + at + ")", x.word(4, at), -1);
            Check.due("word of the greatest rank", x.word(Integer.MAX_VALUE, at), -1);
        }
        int[] noAts = {-1, 13, 16, 1000, Integer.MIN_VALUE, Integer.MAX_VALUE};
        for (int at : noAts) {
            Check.dueThrowUnchanged("word(0, " + at + ")", x, () -> x.word(0, at), IllegalArgumentException.class);
            Check.dueThrow("word(9, " + at + ")", () -> x.word(9, at), IllegalArgumentException.class);
        }
        for (int rank : new int[] {-1, -2, Integer.MIN_VALUE}) {
            Check.dueThrowUnchanged("word(" + rank + ", 0)", x, () -> x.word(rank, 0),
                    IllegalArgumentException.class);
            Check.dueThrow("word(" + rank + ", 13)", () -> x.word(rank, 13), IllegalArgumentException.class);
        }
        PackedWords y = new PackedWords();
        Check.add(y, "abcdefghabcd");
        Check.due("the twelfth letter", y.word(0, 11), 4);
        Check.due("behind the twelfth letter", y.word(0, 12), 0);
    }
}
