/** Counts answers that are not as due; the tests' mains end with exit code 1 if there was one. */
final class Check {
    /** A call whose answer or exception is asked for. */
    interface Call {
        long run();
    }

    private static int wrong = 0;
    private static int asked = 0;

    private Check() {
    }

    static void due(String call, long got, long want) {
        asked++;
        if (got != want) {
            wrong++;
            System.out.println(call + " answered " + got + ", due is " + want);
        }
    }

    static void dueDouble(String call, double got, double want) {
        asked++;
        if (Double.doubleToLongBits(got) != Double.doubleToLongBits(want)) {
            wrong++;
            System.out.println(call + " answered " + got + ", due is " + want);
        }
    }

    /** The class must be the very one: a subclass would be one that the machine threw. */
    static void dueThrow(String call, Call it, Class<?> want) {
        asked++;
        try {
            long got = it.run();
            wrong++;
            System.out.println(call + " answered " + got + ", due is " + want.getName());
        } catch (RuntimeException e) {
            if (e.getClass() != want) {
                wrong++;
                System.out.println(call + " threw " + e + ", due is " + want.getName());
            }
        }
    }

    /** A call that throws must also leave the digest, which covers the whole state, and the undo states alone. */
    static void dueThrowUnchanged(String call, PackedWords x, Call it, Class<?> want) {
        long before = x.digest();
        dueThrow(call, it, want);
        due(call + " changed nothing: digest()", x.digest(), before);
    }

    /** Puts the word, told by its letters such as "abc", into the buffer. */
    static void type(PackedWords x, String word) {
        x.clearBuffer();
        for (int i = 0; i < word.length(); i++) {
            x.append(word.charAt(i) - 'a' + 1);
        }
    }

    static int add(PackedWords x, String word) {
        type(x, word);
        return x.add();
    }

    static int remove(PackedWords x, String word) {
        type(x, word);
        return x.remove();
    }

    static int find(PackedWords x, String word) {
        type(x, word);
        return x.find();
    }

    static String wordAt(PackedWords x, int rank) {
        StringBuilder text = new StringBuilder();
        for (int at = 0; at <= 12 && x.word(rank, at) > 0; at++) {
            text.append((char) ('a' + x.word(rank, at) - 1));
        }
        return text.toString();
    }

    static void dueWords(String when, PackedWords x, String... words) {
        due(when + ": count(0)", x.count(0), words.length);
        for (int rank = 0; rank < words.length; rank++) {
            asked++;
            if (!wordAt(x, rank).equals(words[rank])) {
                wrong++;
                System.out.println(when + ": the word of rank " + rank + " is " + wordAt(x, rank)
                        + ", due is " + words[rank]);
            }
        }
    }

    static void finish(String test) {
        System.out.println(test + ": " + asked + " answers, " + wrong + " not as due");
        if (wrong != 0) {
            System.exit(1);
        }
    }

    static boolean tooManyWrong() {
        return wrong > 20;
    }
}
