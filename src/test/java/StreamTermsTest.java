/** The sentences under "Terms" from BANDS on that name a boundary case, each with a test of its own. */
public final class StreamTermsTest extends Scenes {
    /** The band at each place of 8 columns and 4 rows, for each of LEVELS. */
    private static final String[][] BANDS = {
        {"00000000", "00000000", "00000000", "00000000"},
        {"00001111", "00001111", "00001111", "00001111"},
        {"00112222", "00112222", "00112222", "00112222"},
        {"00001111", "00001111", "22223333", "22223333"},
        {"00112222", "00112222", "33334444", "33334444"},
        {"01223333", "01223333", "44445555", "44445555"},
        {"00114444", "22334444", "55556666", "55556666"},
        {"01225555", "33445555", "66667777", "66667777"},
    };

    public static void main(String[] args) {
        check = new Check("StreamTermsTest");
        placesOfTheBands();
        orderOfTheCoefficients();
        firstAndLastColumnOfASlice();
        firstAndLastRowOfASlice();
        slicesWithNone();
        bytesOfEachSlice();
        bitsOfAByte();
        easeBeyondTheQuantiser();
        factorsAndValues();
        numbersOfEverySample();
        valueOfZero();
        numbersOfEverySize();
        numbersOfEverySizeWritten();
        digitsOfTheLength();
        zerosAfterTheBlock();
        lengthBeyondRoom();
        bitsBeyondTheBlock();
        bitsBeyondTheBlockOfAFullSlice();
        atMostTwentySixDigits();
        noSignOfZero();
        heldToTheFarthest();
        heldWithPrediction();
        predictedInBandZeroAlone();
        predictionAtTheEdges();
        predictionFromOtherSlices();
        predictionFromWhatIsRead();
        predictionWithinTheSlice();
        noZeroAmongTheBits();
        fitsWhenNotMoreThanRoom();
        leastQuantiserOfSeveral();
        fitsAtTheLastQuantiser();
        fitsAtNone();
        check.end();
    }

    // ---- BANDS

    private static void placesOfTheBands() {
        says("Band 0 is the region as it is in the end.");
        for (int i = 0; i < LEVELS.length; i++) {
            int bands = 1 + LEVELS[i][1] + 3 * LEVELS[i][0];
            for (int band = 0; band < bands; band++) {
                Run x = new Run(8, 4);
                x.filter(0, LEVELS[i][0], LEVELS[i][1]);
                yes("ease", x.ease(band, 15));
                x.encode();
                // All numbers are 1. The value is (861 + 431 + 2) >> 2, but where r is 16 it is (64 + 32 + 2) >> 2.
                pokeSlice(x, 128, 31, numbers(1).repeat(32));
                x.decode();
                for (int k = 0; k < 32; k++) {
                    boolean eased = BANDS[i][k / 8].charAt(k % 8) - '0' == band;
                    String what = "band " + band + " of " + bands + " at " + k % 8 + " " + k / 8;
                    same(what, x.rebuilt(k % 8, k / 8), eased ? 24 : 323);
                }
            }
        }
    }

    private static void orderOfTheCoefficients() {
        says("by bands, in a band by rows, in a row by columns");
        long[] upwards = new long[32];
        for (int k = 0; k < 32; k++) {
            upwards[k] = k + 1;
        }
        for (int i = 0; i < LEVELS.length; i++) {
            Run x = new Run(8, 4);
            x.filter(0, LEVELS[i][0], LEVELS[i][1]);
            x.encode();
            pokeSlice(x, 128, 0, numbers(upwards));
            x.decode();
            int next = 1;
            for (char band = '0'; band <= '7'; band++) {
                for (int k = 0; k < 32; k++) {
                    if (BANDS[i][k / 8].charAt(k % 8) == band) {
                        same("the one at " + k % 8 + " " + k / 8, x.rebuilt(k % 8, k / 8), next++);
                    }
                }
            }
        }
    }

    // ---- SLICES

    private static void firstAndLastColumnOfASlice() {
        says("those whose column in the band is at least w * i / ACROSS and less than w * (i + 1) / ACROSS");
        // 4 columns in 3 parts: 0, 1, 2 and 3. 5 in 3: 0, 1 and 2, 3 and 4.
        int[] threeOfFour = {0, 1, 2, 2};
        int[] threeOfFive = {0, 1, 1, 2, 2};
        for (int w = 1; w <= 16; w++) {
            for (int across = 1; across <= 4; across++) {
                for (int column = 0; column < w; column++) {
                    Run x = new Run(w, 1);
                    x.paint(column, 0, 1, 1, 1);
                    x.filter(3, 0, 0);
                    x.slices(across, 1, false);
                    x.encode();
                    for (int i = 0; i < across; i++) {
                        boolean inside = column >= w * i / across && column < w * (i + 1) / across;
                        same("column " + column + " of " + w, x.nonzero(i), inside ? 1 : 0);
                    }
                    if (across == 3 && (w == 4 || w == 5)) {
                        same("three parts", x.nonzero((w == 4 ? threeOfFour : threeOfFive)[column]), 1);
                    }
                }
            }
        }
    }

    private static void firstAndLastRowOfASlice() {
        says("and whose row in the band is at least h * j / DOWN and less than h * (j + 1) / DOWN");
        for (int h = 1; h <= 16; h++) {
            for (int down = 1; down <= 4; down++) {
                for (int line = 0; line < h; line++) {
                    Run x = new Run(2, h);
                    x.paint(1, line, 1, 1, 1);
                    x.filter(3, 0, 0);
                    x.slices(2, down, false);
                    x.encode();
                    for (int j = 0; j < down; j++) {
                        boolean inside = line >= h * j / down && line < h * (j + 1) / down;
                        same("row " + line + " of " + h, x.nonzero(2 * j + 1), inside ? 1 : 0);
                        same("the column before", x.nonzero(2 * j), 0);
                    }
                }
            }
        }
    }

    private static void slicesWithNone() {
        says("(there may be none)");
        // One coefficient in 16 slices: w * 3 / 4 is 0, so it is in the last column of the last row of slices.
        Run x = tight(100);
        x.slices(4, 4, true);
        same("bytes", x.encode(), 32);
        for (int s = 0; s < 15; s++) {
            same("quantiser of none", x.index(s), 0);
            same("LENGTH of none", x.used(s), 0);
            same("none", x.nonzero(s), 0);
            bits("none", x, 2 * s, "0000000000000000");
            pokeBits(x, 2 * s, "11111 0111 0000000");
            same("what a slice of none says", x.index(s), 31);
            same("what a slice of none says", x.used(s), 7);
            same("none is none", x.nonzero(s), 0);
        }
        same("the one", x.index(15), 16);
        same("the one", x.nonzero(15), 1);
        same("decode", x.decode(), 1);
        same("rebuilt", x.rebuilt(0, 0), 104);
        // Each band of 2 by 2 samples has one coefficient: all four are in the last slice.
        Run y = new Run(2, 2);
        y.paint(1, 0, 1, 1, 90);
        y.paint(1, 1, 1, 1, -70);
        y.slices(2, 2, false);
        y.encode();
        same("first", y.nonzero(0), 0);
        same("last", y.nonzero(3), 4);
        same("decode", y.decode(), 0);
    }

    private static void bytesOfEachSlice() {
        says("Slice s has B = (s + 1) * NUM / DEN - s * NUM / DEN bytes (each quotient rounded down by itself).");
        for (int den = 1; den <= 64; den++) {
            for (int num : new int[] {2 * den, 2 * den + 1, 3 * den - 1, 17 * den / 5, 128 * den - 1, 128 * den}) {
                Run x = new Run(1, 1);
                x.slices(4, 4, false);
                yes("rate " + num + " " + den, x.rate(num, den));
                same("bytes of " + num + " / " + den, x.encode(), 16 * num / den);
                int begin = 0;
                for (int s = 0; s < 16; s++) {
                    int bytes = (s + 1) * num / den - s * num / den;
                    x.poke(begin, 8 * (s + 1) + 7);
                    x.poke(begin + 1, 255);
                    same("where slice " + s + " begins", x.index(s), s + 1);
                    same("ROOM of slice " + s, x.used(s), room(bytes));
                    begin += bytes;
                }
                same("where the stream ends", x.byteAt(begin), -1);
            }
        }
    }

    private static void bitsOfAByte() {
        says("the bits of a byte count from the highest one on");
        Run x = tight(0);
        x.encode();
        for (int bit = 0; bit < 16; bit++) {
            x.poke(0, bit < 8 ? 128 >> bit : 0);
            x.poke(1, bit < 8 ? 0 : 128 >> (bit - 8));
            same("q with bit " + bit, x.index(0), bit < 5 ? 16 >> bit : 0);
            same("LENGTH with bit " + bit, x.used(0), bit < 5 || bit > 8 ? 0 : Math.min(7, 8 >> (bit - 5)));
        }
    }

    // ---- QUANTISER

    private static void easeBeyondTheQuantiser() {
        says("r is q - m, but not less than 0");
        for (int m = 0; m <= 15; m++) {
            for (int q = 0; q <= 31; q++) {
                Run x = row(0);
                x.ease(0, m);
                x.encode();
                pokeSlice(x, 128, q, numbers(5));
                x.decode();
                int r = q < m ? 0 : q - m;
                same("5 with q " + q + " and ease " + m, x.rebuilt(0, 0), (5 * F[r] + H[r] + 2) / 4);
            }
            // In writing too: with room for a number as it is, no quantiser less than m makes it shorter.
            Run y = tight(7);
            y.ease(0, m);
            y.encode();
            // 7 + 1 is 1000: too long at r 0. 28 / 5 is 5: 6 is 110, 01 00 1 0 are 6 bits.
            same("7 with ease " + m, y.index(0), m + 1);
        }
    }

    private static void factorsAndValues() {
        says("H is 1 when r is 0, 2 when r is 1, (F + 1) >> 1 otherwise");
        for (int r = 0; r <= 31; r++) {
            Run x = new Run(16, 1);
            x.filter(3, 0, 0);
            x.encode();
            pokeSlice(x, 128, r, numbers(1, -1, 2, -2, 3, -3, 4, -4, 5, -5, 6, -6, 7, -7, 1000, -1000));
            x.decode();
            for (int i = 0; i < 16; i++) {
                long v = i < 14 ? i / 2 + 1 : 1000;
                long value = (v * F[r] + H[r] + 2) / 4;
                same("value of " + v + " where r is " + r, x.rebuilt(i, 0), i % 2 == 0 ? value : -value);
            }
        }
    }

    private static void valueOfZero() {
        says("that of 0 is 0");
        for (int q = 0; q <= 31; q++) {
            Run x = row(0, 0);
            x.encode();
            pokeSlice(x, 128, q, numbers(0, 1));
            x.decode();
            same("value of 0", x.rebuilt(0, 0), 0);
            same("value of 1", x.rebuilt(1, 0), (F[q] + H[q] + 2) / 4);
        }
    }

    /** A sample by itself in 2 bytes takes the quantiser and the number that F tells. */
    private static void numbersOfEverySample() {
        says("A coefficient c >= 0 is written as the NUMBER 4 * c / F");
        says("c < 0 as minus the number of -c");
        for (int c = -128; c <= 127; c++) {
            for (int m : new int[] {0, 1, 9, 15}) {
                Run x = tight(c);
                x.ease(0, m);
                x.encode();
                int q = 0;
                while (q < 31 && lengthOf(c, Math.max(0, q - m)) > 7) {
                    q++;
                }
                String s = numbers(numberOf(c, Math.max(0, q - m)));
                int length = Math.min(7, toLastZero(s).length());
                String what = c + " with ease " + m;
                same(what + ": quantiser", x.index(0), q);
                same(what + ": LENGTH", x.used(0), length);
                bits(what, x, 0, head(2, q, length) + s.substring(0, length));
            }
        }
    }

    private static long numberOf(int c, int r) {
        return c < 0 ? -(-4 * c / F[r]) : 4 * c / F[r];
    }

    private static int lengthOf(int c, int r) {
        return toLastZero(numbers(numberOf(c, r))).length();
    }

    // ---- the BITS of a number

    private static void numbersOfEverySize() {
        says("let the binary form of |v| + 1 be a 1 and k more digits (k is 0 .. 26)");
        says("then a 1, unless k is 26");
        for (int k = 1; k <= 26; k++) {
            int least = (1 << k) - 1;
            int most = (1 << (k + 1)) - 2;
            String end = k < 26 ? "1" : "";
            readTwo("00".repeat(k) + end + "0", least);
            readTwo("00".repeat(k) + end + "1", -least);
            readTwo("01".repeat(k) + end + "0", most);
            readTwo("01".repeat(k) + end + "1", -most);
        }
        readTwo("1", 0);
    }

    /** Reads a number and then a 5, which is 01 00 1 0. */
    private static void readTwo(String bits, int v) {
        Run x = row(0, 0);
        x.encode();
        pokeSlice(x, 128, 0, bits + "010010");
        same("used", x.used(0), bits.length() + 6);
        x.decode();
        same("number " + v, x.rebuilt(0, 0), v);
        same("the number after " + v, x.rebuilt(1, 0), 5);
        same("nonzero", x.nonzero(0), v == 0 ? 1 : 2);
    }

    private static void numbersOfEverySizeWritten() {
        says("for each of these digits, the highest first, a 0 and the digit");
        says("then, unless v is 0, a 1 when v < 0, a 0 when v > 0");
        int[] all = {0, 1, -1, 2, -2, 3, 6, 7, -7, 14, 15, 30, 31, -62, 63, 126, 127, -127, -128};
        String[] bits = {
            "1", "0010", "0011", "0110", "0111", "000010", "010110", "00000010", "00000011", "01010110", "0000000010",
            "0101010110", "000000000010", "010101010111", "00000000000010", "01010101010110", "0000000000000010",
            "0000000000000011", "0000000000000111",
        };
        for (int i = 0; i < all.length; i++) {
            // The 3 behind it ends in a 0, so that all bits of the first number are written.
            Run x = row(all[i], 3);
            x.encode();
            String block = bits[i] + "000010";
            bits("number " + all[i], x, 0, head(128, 0, block.length()) + block);
        }
        // 128 four times over, in each of five splits, is 4096: 4097 is 1 and twelve digits more.
        Run y = new Run(8, 4);
        y.paint(0, 0, 8, 4, -128);
        y.filter(5, 2, 1);
        y.encode();
        String block = "00".repeat(11) + "01" + "1" + "1";
        same("coefficient", y.coefficient(0, 0), -4096);
        bits("number -4096", y, 0, head(128, 0, 23) + block.substring(0, 23));
        // A bit of a byte that is beyond the block is a 0.
        same("used", y.used(0), 23);
    }

    // ---- THE BITS OF A SLICE, READING

    private static void digitsOfTheLength() {
        says("its LENGTH in T bits, where T is how many digits the binary form of 8 * B - 5 has");
        for (int bytes = 2; bytes <= 128; bytes++) {
            Run x = row(0);
            x.rate(bytes, 1);
            x.encode();
            int digits = lengthDigits(bytes);
            int room = 8 * bytes - 5 - digits;
            for (int length : new int[] {0, 1, 2, room - 1, room, room + 1, (1 << digits) - 1}) {
                pokeBits(x, "11111" + Reference.binary(length, digits));
                same("LENGTH " + length + " of " + bytes + " bytes", x.used(0), Math.min(length, room));
            }
        }
    }

    private static void zerosAfterTheBlock() {
        says("and bits 0 up to its last byte's end");
        Run x = row(1, 0, -2);
        x.slices(3, 1, false);
        x.rate(3, 1);
        x.encode();
        for (int k = 0; k < 9; k++) {
            x.poke(k, 255);
        }
        x.encode();
        // 24 bits each: q 00000, LENGTH in 5 bits, the block, zeros. Of -2, 0111, only the first bit is written.
        bits("1", x, 0, "00000 00100 0010 0000000000");
        bits("0", x, 3, "00000 00000 00000000000000");
        bits("-2", x, 6, "00000 00001 0 0000000000000");
    }

    private static void lengthBeyondRoom() {
        says("a LENGTH of more than ROOM counts as ROOM");
        // 19 is 10011: LENGTH has 5 bits, ROOM is 14. The block is 13 numbers 0 and the bit 0.
        for (int length : new int[] {14, 15, 31}) {
            Run x = new Run(16, 1);
            x.filter(3, 0, 0);
            x.rate(3, 1);
            x.encode();
            pokeBits(x, "00000" + Reference.binary(length, 5) + "11111111111110");
            same("used", x.used(0), 14);
            same("nonzero", x.nonzero(0), 1);
            x.decode();
            same("before", x.rebuilt(12, 0), 0);
            same("0 and then ones", x.rebuilt(13, 0), -2);
            same("after", x.rebuilt(14, 0), 0);
        }
    }

    private static void bitsBeyondTheBlock() {
        says("every bit read beyond the block is a 1");
        // The bits are zeros all over, and LENGTH says how many of them count.
        int[] due = {0, -2, -1, -4, -3, -8, -7, -16};
        for (int length = 0; length <= 7; length++) {
            Run x = row(0, 0);
            x.rate(2, 1);
            x.encode();
            pokeBits(x, "00000" + Reference.binary(length, 4) + "0000000");
            x.decode();
            same("zeros, " + length + " of them", x.rebuilt(0, 0), due[length]);
            same("the next number", x.rebuilt(1, 0), 0);
            same("nonzero", x.nonzero(0), length == 0 ? 0 : 1);
        }
        // 3 is 000010: with its last bit beyond the block it is -3.
        Run y = row(0);
        y.encode();
        pokeBits(y, head(128, 0, 5) + "000010");
        y.decode();
        same("the sign beyond", y.rebuilt(0, 0), -3);
        pokeBits(y, head(128, 0, 6) + "000010");
        y.decode();
        same("the sign within", y.rebuilt(0, 0), 3);
    }

    private static void bitsBeyondTheBlockOfAFullSlice() {
        says("every bit read beyond the block is a 1");
        // The block of slice 0 ends where slice 1 begins, with a q of 0; and that of slice 1 where the stream ends.
        Run x = tight(0, 0);
        x.slices(2, 1, false);
        x.encode();
        pokeBits(x, "00000 0111 0000000 00000 0111 0000000");
        x.decode();
        same("before another slice", x.rebuilt(0, 0), -16);
        same("at the stream's end", x.rebuilt(1, 0), -16);
        same("nonzero", x.nonzero(0), 1);
        same("nonzero", x.nonzero(1), 1);
        // The longest stream of all, and its last slice full of zeros.
        Run y = new Run(1, 1);
        y.filter(3, 0, 0);
        y.slices(4, 4, false);
        same("bytes", y.encode(), 2048);
        y.poke(15 * 128, 7);
        y.poke(15 * 128 + 1, 255);
        same("used", y.used(15), 1009);
        same("byte", y.byteAt(2047), 0);
        y.decode();
        // Of the bits after LENGTH the first is in byte 1, a 1: number 0.
        same("number", y.rebuilt(0, 0), 0);
        y.poke(15 * 128 + 1, 254);
        y.decode();
        // 26 times a 0 and a 0, and a 0: 2^26 - 1.
        same("number", y.rebuilt(0, 0), (1 << 26) - 1);
    }

    private static void atMostTwentySixDigits() {
        says("then, at most 26 times, a bit is read");
        Run x = row(0, 0, 0);
        x.encode();
        // 26 times a 0 and a 0, and the sign, twice; then a -1.
        pokeSlice(x, 128, 0, "0".repeat(52) + "1" + "0".repeat(52) + "0" + "0011");
        x.decode();
        same("first", x.rebuilt(0, 0), 1 - (1 << 26));
        same("second", x.rebuilt(1, 0), (1 << 26) - 1);
        same("third", x.rebuilt(2, 0), -1);
        // After 25 digits there is a bit that ends them.
        pokeSlice(x, 128, 0, "0".repeat(50) + "1" + "1" + "0010");
        x.decode();
        same("25 digits", x.rebuilt(0, 0), 1 - (1 << 25));
        same("what comes next", x.rebuilt(1, 0), 1);
    }

    private static void noSignOfZero() {
        says("n - 1 is |v|; when it is not 0, one more bit is read: 1 says v < 0");
        Run x = row(0, 0, 0, 0);
        x.encode();
        pokeSlice(x, 128, 0, "1" + "0010" + "1" + "0011");
        x.decode();
        same("0", x.rebuilt(0, 0), 0);
        same("1", x.rebuilt(1, 0), 1);
        same("0", x.rebuilt(2, 0), 0);
        same("-1", x.rebuilt(3, 0), -1);
        same("nonzero", x.nonzero(0), 2);
    }

    private static void heldToTheFarthest() {
        says("in any case what is less than -2^27 becomes -2^27, what is more than 2^27 becomes 2^27");
        // Where r is 1 the value of v is (5 * v + 4) >> 2: 2^27 - 1, 2^27, and one more.
        long[] numbers = {107374181, 107374182, 107374183, 134217726};
        long[] due = {FAR - 1, FAR, FAR, FAR};
        for (int i = 0; i < due.length; i++) {
            for (int sign = -1; sign <= 1; sign += 2) {
                Run x = row(0);
                x.encode();
                pokeSlice(x, 128, 1, numbers(sign * numbers[i]));
                x.decode();
                same("value of " + sign * numbers[i], x.rebuilt(0, 0), sign * due[i]);
                pokeSlice(x, 128, 31, numbers(sign * numbers[i]));
                x.decode();
                same("by the coarsest", x.rebuilt(0, 0), sign * FAR);
            }
        }
        // Outside band 0 as well.
        Run y = new Run(2, 1);
        y.filter(3, 0, 1);
        y.encode();
        pokeSlice(y, 128, 31, numbers(0, -134217726));
        y.decode();
        same("in band 1", y.rebuilt(1, 0), -FAR);
    }

    private static void heldWithPrediction() {
        says("but in band 0, with prediction, it is p plus the value;"
            + " in any case what is less than -2^27 becomes -2^27");
        for (int sign = -1; sign <= 1; sign += 2) {
            Run x = row(0, 0, 0, 0, 0);
            x.slices(1, 1, true);
            x.encode();
            // 2^27 - 2, + 1, + 1 is 2^27; + 1 is held; - 1.
            pokeSlice(x, 128, 0, numbers(sign * 134217726, sign, sign, sign, -sign));
            x.decode();
            long[] due = {FAR - 2, FAR - 1, FAR, FAR, FAR - 1};
            for (int i = 0; i < 5; i++) {
                same("with prediction", x.rebuilt(i, 0), sign * due[i]);
            }
            // p and the value may be 2^27 and 2^27 * 215: no more than 2^27 comes out, nor the other sign.
            pokeSlice(x, 128, 31, numbers(sign * 134217726, sign * 134217726, -sign * 134217726));
            x.decode();
            same("the most of all", x.rebuilt(1, 0), sign * FAR);
            same("and back", x.rebuilt(2, 0), -sign * FAR);
        }
    }

    // ---- PREDICTION

    private static void predictedInBandZeroAlone() {
        says("but in band 0, with prediction, it is p plus the value");
        for (int i = 0; i < LEVELS.length; i++) {
            for (int predict = 0; predict <= 1; predict++) {
                Run x = new Run(8, 1);
                x.filter(3, 0, LEVELS[i][1]);
                x.slices(1, 1, predict == 1);
                x.encode();
                pokeSlice(x, 128, 0, numbers(1).repeat(8));
                x.decode();
                int inBand0 = 8 >> LEVELS[i][1];
                for (int k = 0; k < 8; k++) {
                    same("at " + k, x.rebuilt(k, 0), predict == 1 && k < inBand0 ? k + 1 : 1);
                }
            }
        }
    }

    private static void predictionAtTheEdges() {
        says("it is 0 when x and y are 0, L when only y is 0, U when only x is 0, else (L + U + C + 1) / 3");
        Run x = new Run(3, 3);
        x.filter(3, 0, 0);
        x.slices(1, 1, true);
        x.encode();
        pokeSlice(x, 128, 0, numbers(10, 20, 40, 100, 0, 0, 200, 0, 0));
        x.decode();
        // 10, 30, 70; 110, (110 + 30 + 10 + 1) / 3, (50 + 70 + 30 + 1) / 3; 310, (310 + 50 + 110 + 1) / 3, ..
        long[] due = {10, 30, 70, 110, 50, 50, 310, 157, 86};
        for (int i = 0; i < 9; i++) {
            same("at " + i % 3 + " " + i / 3, x.rebuilt(i % 3, i / 3), due[i]);
        }
        // A picture of one column has no L, one of one row no U.
        Run column = new Run(1, 3);
        column.filter(3, 0, 0);
        column.slices(1, 1, true);
        column.encode();
        pokeSlice(column, 128, 0, numbers(5, -7, 9));
        column.decode();
        same("one column", column.rebuilt(0, 2), 7);
        Run line = row(0, 0, 0);
        line.slices(1, 1, true);
        line.encode();
        pokeSlice(line, 128, 0, numbers(5, -7, 9));
        line.decode();
        same("one row", line.rebuilt(2, 0), 7);
    }

    private static void predictionFromOtherSlices() {
        says("(Those lie in the same slice before it, or in slices before.)");
        // Each of four samples in a slice of its own, in 2 bytes: 00000, LENGTH in 4 bits, the block.
        Run x = painted(2, 2, 2, 4, 3, 6);
        x.filter(3, 0, 0);
        x.slices(2, 2, true);
        x.rate(2, 1);
        same("bytes", x.encode(), 8);
        // 2; 4 - 2; 3 - 2; 6 - (3 + 4 + 2 + 1) / 3.
        bits("2", x, 0, "00000 0100 0110 000");
        bits("4 - 2", x, 2, "00000 0100 0110 000");
        bits("3 - 2", x, 4, "00000 0100 0010 000");
        bits("6 - 3", x, 6, "00000 0110 000010 0");
        same("decode", x.decode(), 0);
        // What is changed in slice 0 goes on into all of them: 0, 2, 1, (1 + 2 + 0 + 1) / 3 + 3.
        pokeBits(x, "00000 0000 0000000");
        same("decode", x.decode(), 4);
        same("slice 0", x.rebuilt(0, 0), 0);
        same("slice 1", x.rebuilt(1, 0), 2);
        same("slice 2", x.rebuilt(0, 1), 1);
        same("slice 3", x.rebuilt(1, 1), 4);
    }

    // ---- WRITING

    private static void predictionFromWhatIsRead() {
        says("where p comes from what READING gives for the slices already written");
        // With r 16 at the most, 127 is 7, whose sign is cut off: read it is -7, whose value is -120.
        Run x = tight(127, 127);
        x.slices(2, 1, true);
        x.ease(0, 15);
        x.encode();
        bits("127", x, 0, "11111 0111 0000001");
        // 247 is 15: 00 00 00 0, and what is cut off reads 1 1 1.
        bits("247", x, 2, "11111 0111 0000000");
        x.decode();
        same("-120", x.rebuilt(0, 0), -120);
        same("-120 - 264", x.rebuilt(1, 0), -384);
    }

    private static void predictionWithinTheSlice() {
        says("within the slice, from p plus the value of each number before");
        // q is 12: 104 is 13, whose value is 108; 118 - 108 is 1, of 12; 104 - 120 is -2, of -20.
        Run x = row(104, 118, 104);
        x.slices(1, 1, true);
        x.rate(3, 1);
        x.encode();
        same("quantiser", x.index(0), 12);
        bits("104 118 104", x, 0, "01100 01101 01010010 0010 0 0");
        x.decode();
        same("104", x.rebuilt(0, 0), 108);
        same("118", x.rebuilt(1, 0), 120);
        same("104", x.rebuilt(2, 0), 100);
    }

    private static void noZeroAmongTheBits() {
        says("(0 when there is no 0)");
        Run x = tight(0, 0, 0, 0, 0, 0, 0, 0, 0, 0, 0, 0, 0, 0, 0, 0);
        same("bytes", x.encode(), 2);
        bytes("16 numbers 0 are 16 bits 1", x, 0, 0);
        same("used", x.used(0), 0);
        same("decode", x.decode(), 0);
        says("how many of these there are up to the last 0 among them, it included");
        // -1 is 0011, -2 is 0111, -3 is 000011, 1 is 0010.
        writesLength(2, -1);
        writesLength(1, -2);
        writesLength(4, -3);
        writesLength(4, 1);
        writesLength(2, -1, 0, 0, 0, 0, 0, 0, 0);
        writesLength(6, -1, -1);
        writesLength(7, 0, 0, 0, 1, 0, 0, 0, 0, 0);
    }

    private static void writesLength(int due, int... samples) {
        Run x = tight(samples);
        x.encode();
        same("quantiser", x.index(0), 0);
        same("used", x.used(0), due);
        same("decode", x.decode(), 0);
    }

    private static void fitsWhenNotMoreThanRoom() {
        says("The slice FITS when N is at most ROOM.");
        // 1 is 4 bits long: after three numbers 0 it fits into 7, after four it doesn't, at r 0; 4 / 5 is 0.
        quantiserOf(0, 7, 0, 0, 0, 1);
        quantiserOf(1, 0, 0, 0, 0, 0, 1);
        // 3 is 6 bits long, one 0 before it makes 7; 12 / 5 is 2, of 4 bits.
        quantiserOf(0, 7, 0, 3);
        quantiserOf(1, 6, 0, 0, 3);
        // -100 at r 7 is -30: 01 01 01 01 1 1, of which 7 count; at r 6 it is -36: 37 is 100101.
        quantiserOf(7, 7, -100);
        // The same in the largest slices, of 1009 bits: 252 numbers 1 behind one 0, and behind two.
        Run x = new Run(16, 16);
        x.filter(3, 0, 0);
        x.paint(0, 0, 16, 16, 1);
        x.paint(0, 0, 1, 1, 0);
        x.paint(13, 15, 3, 1, 0);
        x.encode();
        same("quantiser", x.index(0), 0);
        same("used", x.used(0), 1009);
        same("decode", x.decode(), 0);
        x.paint(1, 0, 1, 1, 0);
        x.paint(13, 15, 1, 1, 1);
        x.encode();
        same("quantiser", x.index(0), 1);
        same("used", x.used(0), 0);
        same("decode", x.decode(), 252);
    }

    private static void quantiserOf(int q, int length, int... samples) {
        Run x = tight(samples);
        x.encode();
        same("quantiser", x.index(0), q);
        same("used", x.used(0), length);
    }

    private static void leastQuantiserOfSeveral() {
        says("Its quantiser is the least q at which it fits");
        // -100 fits at 7, not at 8 (25: 26 is 11010, of which 8 bits count), and again later.
        Run x = tight(-100);
        x.encode();
        same("the least", x.index(0), 7);
        same("100 fits later", indexOf(100), 16);
        // It is the least for each slice by itself.
        Run y = tight(-100, 100, 1);
        y.slices(3, 1, false);
        y.encode();
        same("slice 0", y.index(0), 7);
        same("slice 1", y.index(1), 16);
        same("slice 2", y.index(2), 0);
    }

    private static int indexOf(int sample) {
        Run x = tight(sample);
        x.encode();
        return x.index(0);
    }

    private static int easedIndexOf(int sample) {
        Run x = tight(sample);
        x.ease(0, 15);
        x.encode();
        return x.index(0);
    }

    private static void fitsAtTheLastQuantiser() {
        says("Its quantiser is the least q at which it fits; then its LENGTH is N");
        // Where r is 16, 100 is 6, of 6 bits, and 108 is 6; 112 is 7, of 8 bits.
        for (int sample : new int[] {100, 108, 111}) {
            Run x = tight(sample);
            x.ease(0, 15);
            x.encode();
            same(sample + ": the last one", x.index(0), 31);
            same(sample + ": N", x.used(0), 6);
            bits(sample + ": all bits", x, 0, "11111 0110 010110 0");
        }
    }

    private static void fitsAtNone() {
        says("If it fits at none, its quantiser is 31, its LENGTH is ROOM,"
            + " and the block the first ROOM bits of S for q = 31.");
        Run x = tight(112);
        x.ease(0, 15);
        x.encode();
        bits("112", x, 0, "11111 0111 0000001");
        same("index", x.index(0), 31);
        same("used", x.used(0), 7);
        // 127 fits at none, -127 where r is 9: it is -26 then, 01 00 01 01 1 1, of which 7 bits count.
        same("127", easedIndexOf(127), 31);
        same("-127", easedIndexOf(-127), 24);
        Run z = tight(50, 127, 127, 127);
        z.ease(0, 15);
        z.encode();
        // 50 is 3: 00 00 1 0, and of 7 the first 0 alone.
        bits("50 127 ..", z, 0, "11111 0111 000010 0");
        z.decode();
        same("50", z.rebuilt(0, 0), 56);
        same("0 and ones", z.rebuilt(1, 0), -40);
        same("nothing", z.rebuilt(2, 0), 0);
    }
}
