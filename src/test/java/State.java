import java.math.BigInteger;
import java.util.function.Supplier;

/**
 * A state, told by how an object comes to it. Looks at it go to another object made so when the calls of the last one
 * run short, so that all of a full table can be looked at.
 */
final class State {
    private final Supplier<Words> make;
    private Words words = null;

    State(Supplier<Words> make) {
        this.make = make;
    }

    Words look() {
        if (words == null || words.callsLeft() < 1) {
            words = make.get();
        }
        return words;
    }

    /** An object in this state that nothing else uses. */
    Words fresh() {
        return make.get();
    }

    int[] kinds() {
        int[] kinds = new int[160];
        for (int cell = 0; cell < 160; cell++) {
            kinds[cell] = look().cell(cell, 0);
        }
        return kinds;
    }

    // ---- the digest as the document tells it, from the looks

    private BigInteger hash;

    private void mix(long value) {
        hash = hash.multiply(BigInteger.valueOf(31)).add(BigInteger.valueOf(value));
    }

    /** The hash without a bound, of which long arithmetic keeps the lowest 64 bits. */
    long digestOfLooks(String buffer) {
        hash = BigInteger.valueOf(2801);
        for (int what = 0; what <= 9; what++) {
            mix(look().count(what));
        }
        mixCells();
        mixEnds();
        mix(look().find());
        mix(look().longest());
        mix(look().beginning());
        mix(look().ahead());
        for (int rank = 0; rank <= 2; rank++) {
            for (int at = 0; at <= 12; at++) {
                mix(look().word(rank, at));
            }
        }
        for (int what = 0; what <= 3; what++) {
            mix(look().ifAdded(what));
        }
        mix(look().ifPacked());
        mix(Double.doubleToLongBits(look().fullness()));
        for (char letter : buffer.toCharArray()) {
            mix(letter - 'a' + 1);
        }
        return hash.longValue();
    }

    private void mixCells() {
        for (int cell = 0; cell < 160; cell++) {
            if (look().cell(cell, 0) != 0) {
                mix(cell);
                for (int what = 0; what <= 6; what++) {
                    mix(look().cell(cell, what));
                }
            }
        }
    }

    private void mixEnds() {
        for (int place = 0; place < 40; place++) {
            if (look().end(place, 0) != 0) {
                mix(place);
                mix(look().end(place, 0));
                mix(look().end(place, 1));
                for (int at = 0; at < look().end(place, 1); at++) {
                    mix(look().letter(place, at));
                }
            }
        }
    }
}
