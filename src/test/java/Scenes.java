/** Small pictures and streams that tests begin with, and what they ask of them: a test extends this to use it. */
abstract class Scenes {
    static final int NONE = -1000;
    static final int FAR = 1 << 27;
    static final int[] WRONG = {Integer.MIN_VALUE, -1000, -129, 129, 1000, Integer.MAX_VALUE};

    /** D and E of every setup that there may be. */
    static final int[][] LEVELS = {{0, 0}, {0, 1}, {0, 2}, {1, 0}, {1, 1}, {1, 2}, {2, 0}, {2, 1}};

    /** F and H of QUANTISER for r = 0 .. 31. */
    static final int[] F = {
        4, 5, 6, 7, 8, 10, 11, 13, 16, 19, 23, 27, 32, 38, 45, 54,
        64, 76, 91, 108, 128, 152, 181, 215, 256, 304, 362, 431, 512, 609, 724, 861,
    };
    static final int[] H = {
        1, 2, 3, 4, 4, 5, 6, 7, 8, 10, 12, 14, 16, 19, 23, 27,
        32, 38, 46, 54, 64, 76, 91, 108, 128, 152, 181, 216, 256, 305, 362, 431,
    };

    static Check check;

    static void says(String words) {
        check.says(words);
    }

    static void same(String what, long got, long want) {
        check.due(what, got, want);
    }

    static void yes(String what, boolean got) {
        check.yes(what, got);
    }

    static void no(String what, boolean got) {
        check.no(what, got);
    }

    /** A picture of one row, with no level: the coefficients are the samples. */
    static Run row(int... samples) {
        Run x = painted(samples.length, 1, samples);
        x.filter(3, 0, 0);
        return x;
    }

    static Run painted(int width, int height, int... samples) {
        Run x = new Run(width, height);
        for (int i = 0; i < samples.length; i++) {
            x.paint(i % width, i / width, 1, 1, samples[i]);
        }
        return x;
    }

    /** A row in slices of the 2 bytes that are the least: ROOM is 7. */
    static Run tight(int... samples) {
        Run x = row(samples);
        x.rate(2, 1);
        return x;
    }

    /** One sample 100 in 2 bytes, written and read: QUANTISER 16, number 6, value (6 * 64 + 32 + 2) >> 2. */
    static Run hundred() {
        Run x = tight(100);
        x.encode();
        x.decode();
        return x;
    }

    static void stillHundred(String what, Run x) {
        bytes(what, x, 131, 44);
        same(what + ": index", x.index(0), 16);
        same(what + ": rebuilt", x.rebuilt(0, 0), 104);
        same(what + ": decoded", x.decoded(0, 0), 104);
        same(what + ": error", x.error(), 16);
    }

    static void noStream(String what, Run x) {
        same(what + ": byteAt", x.byteAt(0), -1);
        same(what + ": index", x.index(0), -1);
        same(what + ": used", x.used(0), -1);
        same(what + ": nonzero", x.nonzero(0), -1);
        no(what + ": poke", x.poke(0, 1));
        same(what + ": decode", x.decode(), -1);
    }

    static void noReadPicture(String what, Run x) {
        same(what + ": decoded", x.decoded(0, 0), NONE);
        same(what + ": rebuilt", x.rebuilt(0, 0), 0);
        same(what + ": error", x.error(), -1);
    }

    static void coefficients(String what, Run x, int... want) {
        for (int i = 0; i < want.length; i++) {
            same(what + ": coefficient(" + i + ", 0)", x.coefficient(i, 0), want[i]);
        }
    }

    static void bytes(String what, Run x, int... want) {
        for (int k = 0; k < want.length; k++) {
            same(what + ": byteAt(" + k + ")", x.byteAt(k), want[k]);
        }
    }

    /** A text of '0' and '1' as it stands in the stream from byte k on, with bits 0 up to the last byte's end. */
    static void bits(String what, Run x, int k, String text) {
        String all = wholeBytes(text);
        for (int i = 0; 8 * i < all.length(); i++) {
            same(what + ": byteAt(" + (k + i) + ")", x.byteAt(k + i), byteOf(all, i));
        }
    }

    /** Puts a text of '0' and '1' into the stream from byte k on; a ' ' means nothing. */
    static void pokeBits(Run x, int k, String text) {
        String all = wholeBytes(text);
        for (int i = 0; 8 * i < all.length(); i++) {
            yes("poke " + (k + i), x.poke(k + i, byteOf(all, i)));
        }
    }

    static void pokeBits(Run x, String text) {
        pokeBits(x, 0, text);
    }

    /** Writes a block with its head over the first slice, which has so many bytes. */
    static void pokeSlice(Run x, int bytes, int q, String block) {
        pokeBits(x, head(bytes, q, block.length()) + block);
    }

    static String head(int bytes, int q, int length) {
        return Reference.binary(q, 5) + Reference.binary(length, lengthDigits(bytes));
    }

    static int lengthDigits(int bytes) {
        return Integer.toBinaryString(8 * bytes - 5).length();
    }

    static int room(int bytes) {
        return 8 * bytes - 5 - lengthDigits(bytes);
    }

    /** The bits of numbers, one after another. */
    static String numbers(long... all) {
        StringBuilder out = new StringBuilder();
        for (long v : all) {
            out.append(Reference.bitsOf(v));
        }
        return out.toString();
    }

    static String toLastZero(String s) {
        return s.substring(0, s.lastIndexOf('0') + 1);
    }

    private static String wholeBytes(String text) {
        StringBuilder out = new StringBuilder(text.replace(" ", ""));
        while (out.length() % 8 != 0) {
            out.append('0');
        }
        return out.toString();
    }

    private static int byteOf(String bits, int i) {
        return Integer.parseInt(bits.substring(8 * i, 8 * i + 8), 2);
    }
}
