/** Each promise of the document, with answers worked out by hand from its words. */
public final class PromisesTest extends Scenes {
    public static void main(String[] args) {
        check = new Check("PromisesTest");
        promise1NewObject();
        promise2Paint();
        promise2PaintRefused();
        promise3Slope();
        promise4Sample();
        promise5Filter();
        promise5FilterRefused();
        promise6Slices();
        promise6SlicesThatAreEmpty();
        promise6SlicesRefused();
        promise7Ease();
        promise7EaseRefused();
        promise8Rate();
        promise8RateRefused();
        promise9Bands();
        promise10CoefficientOfTwo();
        promise10CoefficientOfFarNeighbours();
        promise10CoefficientOrder();
        promise10CoefficientLevels();
        promise10CoefficientEdges();
        promise10And19FewerCoefficients();
        promise11Encode();
        promise11EncodeLeavesOutLastOnes();
        promise11EncodeCutsOff();
        promise11EncodePredictsFromReading();
        promise11EncodeOrder();
        promise11EncodeTakesLeastQuantiser();
        promise12ByteAt();
        promise13Poke();
        promise14Index();
        promise15Used();
        promise16Nonzero();
        promise17Decode();
        promise17DecodeQuantisers();
        promise17DecodeBiggestNumbers();
        promise17DecodePrediction();
        promise18Decoded();
        promise19Rebuilt();
        promise20Error();
        readPictureOutlivesPictureAndStream();
        check.end();
    }

    // ---- 1 to 4: the picture

    private static void promise1NewObject() {
        int[][] sizes = {
            {3, 5, 3, 5}, {1, 1, 1, 1}, {16, 16, 16, 16}, {0, 17, 1, 16}, {17, 0, 16, 1}, {-1, 4, 1, 4},
            {Integer.MIN_VALUE, Integer.MAX_VALUE, 1, 16}, {Integer.MAX_VALUE, Integer.MIN_VALUE, 16, 1},
        };
        for (int[] s : sizes) {
            Run x = new Run(s[0], s[1]);
            String what = "new " + s[0] + " " + s[1];
            same(what, x.sample(0, 0), 0);
            same(what, x.sample(s[2] - 1, s[3] - 1), 0);
            same(what, x.sample(s[2], s[3] - 1), NONE);
            same(what, x.sample(s[2] - 1, s[3]), NONE);
            noStream(what, x);
            noReadPicture(what, x);
        }
        Run x = new Run(2, 2);
        same("first bands", x.bands(), 4);
        x.paint(1, 0, 1, 2, 1);
        // Filter 0 over 0 2: O = 2 - ((0 + 0 + 1) >> 1), E = 0 + ((2 + 2 + 2) >> 2).
        same("first filter", x.coefficient(0, 0), 1);
        same("first filter", x.coefficient(1, 0), 2);
        same("first rate", x.encode(), 128);
        same("first slices", x.index(1), -1);
        same("first eases", x.index(0), 0);
    }

    private static void promise2Paint() {
        Run x = new Run(5, 4);
        yes("paint", x.paint(1, 2, 2, 1, 7));
        for (int j = 0; j < 4; j++) {
            for (int i = 0; i < 5; i++) {
                same("painted", x.sample(i, j), j == 2 && (i == 1 || i == 2) ? 7 : 0);
            }
        }
        yes("paint beyond", x.paint(3, 1, 16, 16, -128));
        for (int j = 0; j < 4; j++) {
            same("painted beyond", x.sample(4, j), j >= 1 ? -128 : 0);
            same("painted beyond", x.sample(3, j), j >= 1 ? -128 : 0);
            same("left as it was", x.sample(2, j), j == 2 ? 7 : 0);
        }
        yes("paint last", x.paint(4, 3, 1, 1, 127));
        same("last", x.sample(4, 3), 127);
        Run y = hundred();
        yes("paint", y.paint(0, 0, 1, 1, 100));
        stillHundred("after paint", y);
    }

    private static void promise2PaintRefused() {
        Run x = new Run(5, 4);
        no("x", x.paint(5, 0, 1, 1, 1));
        no("x", x.paint(-1, 0, 2, 2, 1));
        no("y", x.paint(0, 4, 1, 1, 1));
        no("y", x.paint(0, -1, 2, 2, 1));
        no("w", x.paint(0, 0, 0, 1, 1));
        no("w", x.paint(0, 0, 17, 1, 1));
        no("h", x.paint(0, 0, 1, 0, 1));
        no("h", x.paint(0, 0, 1, 17, 1));
        no("v", x.paint(0, 0, 1, 1, 128));
        no("v", x.paint(0, 0, 1, 1, -129));
        for (int wrong : WRONG) {
            no("wrong", x.paint(wrong, 0, 1, 1, 1));
            no("wrong", x.paint(0, wrong, 1, 1, 1));
            no("wrong", x.paint(0, 0, wrong, 1, 1));
            no("wrong", x.paint(0, 0, 1, wrong, 1));
            no("wrong", x.paint(0, 0, 1, 1, wrong));
        }
        for (int j = 0; j < 4; j++) {
            for (int i = 0; i < 5; i++) {
                same("refused changes nothing", x.sample(i, j), 0);
            }
        }
    }

    private static void promise3Slope() {
        Run x = new Run(3, 3);
        x.paint(0, 0, 3, 3, 10);
        yes("slope", x.slope(2, -5));
        same("slope", x.sample(0, 0), 10);
        same("slope", x.sample(2, 0), 14);
        same("slope", x.sample(0, 2), 0);
        same("slope", x.sample(2, 1), 9);
        for (int i = 0; i < 2; i++) {
            yes("slope up", x.slope(32, 32));
        }
        // 10 + 2 * 2 - 5 * 2 + 128, and then 128 more.
        same("too much becomes 127", x.sample(2, 2), 127);
        same("0 times", x.sample(0, 0), 10);
        same("twice", x.sample(1, 0), 76);
        // It's the sum of both that is held to the bounds, and only in the end.
        yes("slope down", x.slope(-32, -32));
        same("from what it was held to", x.sample(2, 2), -1);
        yes("slope down", x.slope(-32, -32));
        same("too little becomes -128", x.sample(2, 2), -128);
        no("across", x.slope(33, 0));
        no("across", x.slope(-33, 0));
        no("down", x.slope(0, 33));
        no("down", x.slope(0, -33));
        for (int wrong : WRONG) {
            no("wrong", x.slope(wrong, 1));
            no("wrong", x.slope(1, wrong));
        }
        same("refused changes nothing", x.sample(2, 2), -128);
        Run y = hundred();
        yes("slope", y.slope(32, 32));
        stillHundred("after slope", y);
    }

    private static void promise4Sample() {
        Run x = new Run(2, 3);
        x.paint(1, 2, 1, 1, -77);
        same("sample", x.sample(1, 2), -77);
        same("sample", x.sample(0, 2), 0);
        same("sample", x.sample(2, 1), NONE);
        same("sample", x.sample(1, 3), NONE);
        same("sample", x.sample(-1, 0), NONE);
        same("sample", x.sample(0, -1), NONE);
        for (int wrong : WRONG) {
            same("wrong", x.sample(wrong, 0), NONE);
            same("wrong", x.sample(0, wrong), NONE);
        }
        same("NONE", WaveletSlices.NONE, NONE);
    }

    // ---- 5 to 9: the setup

    private static void promise5Filter() {
        for (int kind = 0; kind <= 6; kind++) {
            for (int both = 0; both <= 2; both++) {
                for (int wide = 0; wide <= 2; wide++) {
                    Run x = new Run(4, 4);
                    boolean fine = both + wide <= 3;
                    same("filter", x.filter(kind, both, wide) ? 1 : 0, fine ? 1 : 0);
                    same("bands after filter", x.bands(), fine ? 1 + wide + 3 * both : 4);
                }
            }
        }
        Run x = hundred();
        yes("filter", x.filter(3, 0, 0));
        noStream("after filter", x);
        noReadPicture("after filter", x);
        x.ease(0, 3);
        x.encode();
        same("eased", x.index(0), 19);
        x.filter(3, 0, 0);
        x.encode();
        same("no ease after filter", x.index(0), 16);
        same("the rate stays", x.encode(), 2);
    }

    private static void promise5FilterRefused() {
        Run x = tight(100);
        x.ease(0, 2);
        x.encode();
        x.decode();
        no("kind", x.filter(7, 1, 0));
        no("kind", x.filter(-1, 1, 0));
        no("both", x.filter(0, 3, 0));
        no("both", x.filter(0, -1, 2));
        no("wide", x.filter(0, 0, 3));
        no("wide", x.filter(0, 2, -1));
        no("both and wide", x.filter(0, 2, 2));
        for (int wrong : WRONG) {
            no("wrong", x.filter(wrong, 1, 1));
            no("wrong", x.filter(0, wrong, 1));
            no("wrong", x.filter(0, 1, wrong));
        }
        no("sum beyond an int", x.filter(0, Integer.MAX_VALUE, Integer.MAX_VALUE));
        same("the levels stay", x.bands(), 1);
        same("the stream stays", x.index(0), 18);
        same("the read picture stays", x.decoded(0, 0), 104);
        x.encode();
        same("the ease stays", x.index(0), 18);
    }

    private static void promise6Slices() {
        // 4 columns in 3 parts: 0 .. 0, 1 .. 1, 2 .. 3.
        Run x = row(1, 2, 3, 4);
        yes("slices", x.slices(3, 1, false));
        same("3 slices", x.encode(), 3 * 128);
        same("nonzero 0", x.nonzero(0), 1);
        same("nonzero 1", x.nonzero(1), 1);
        same("nonzero 2", x.nonzero(2), 2);
        same("nonzero 3", x.nonzero(3), -1);
        // A row of 16 in 4 by 3 slices: rows 5 * j / 3 are 0, 1, 3, 5.
        Run y = new Run(16, 5);
        y.paint(0, 0, 16, 5, 1);
        y.filter(5, 0, 0);
        yes("slices", y.slices(4, 3, false));
        same("12 slices", y.encode(), 12 * 128);
        for (int s = 0; s < 12; s++) {
            same("rows of slice " + s, y.nonzero(s), s < 4 ? 4 : 8);
        }
        Run z = hundred();
        yes("slices", z.slices(1, 1, false));
        noStream("after slices", z);
        noReadPicture("after slices", z);
    }

    private static void promise6SlicesThatAreEmpty() {
        Run x = tight(1);
        yes("slices", x.slices(4, 4, true));
        same("16 slices", x.encode(), 32);
        for (int s = 0; s < 16; s++) {
            same("empty " + s, x.nonzero(s), s == 15 ? 1 : 0);
            same("empty " + s, x.used(s), s == 15 ? 4 : 0);
            same("empty " + s, x.index(s), 0);
        }
        same("decode", x.decode(), 0);
    }

    private static void promise6SlicesRefused() {
        Run x = hundred();
        no("across", x.slices(0, 1, false));
        no("across", x.slices(5, 1, false));
        no("down", x.slices(1, 0, false));
        no("down", x.slices(1, 5, false));
        for (int wrong : WRONG) {
            no("wrong", x.slices(wrong, 2, true));
            no("wrong", x.slices(2, wrong, true));
        }
        stillHundred("after slices refused", x);
        same("one slice still", x.encode(), 2);
    }

    private static void promise7Ease() {
        for (int m = 0; m <= 15; m++) {
            Run x = tight(100);
            yes("ease", x.ease(0, m));
            x.encode();
            same("index with ease " + m, x.index(0), 16 + m);
            x.decode();
            same("rebuilt with ease " + m, x.rebuilt(0, 0), 104);
        }
        // Only the one band is eased, and r is never less than 0: two bands of one coefficient each.
        Run x = new Run(2, 1);
        x.filter(3, 0, 1);
        yes("ease", x.ease(1, 5));
        x.rate(16, 1);
        x.encode();
        // QUANTISER 8, LENGTH 8: two numbers 1, which are 0010 each.
        pokeBits(x, "01000 0001000 0010 0010");
        x.decode();
        same("band 0, r is 8", x.rebuilt(0, 0), 6);
        same("band 1, r is 3", x.rebuilt(1, 0), 3);
        pokeBits(x, "00100 0001000 0010 0010");
        x.decode();
        same("band 0, r is 4", x.rebuilt(0, 0), 3);
        same("band 1, r is 0", x.rebuilt(1, 0), 1);
        yes("ease again", x.ease(1, 0));
        noStream("after ease", x);
        noReadPicture("after ease", x);
    }

    private static void promise7EaseRefused() {
        Run x = hundred();
        no("band", x.ease(1, 0));
        no("band", x.ease(-1, 0));
        no("m", x.ease(0, 16));
        no("m", x.ease(0, -1));
        for (int wrong : WRONG) {
            no("wrong", x.ease(wrong, 1));
            no("wrong", x.ease(0, wrong));
        }
        stillHundred("after ease refused", x);
        x.encode();
        same("no ease still", x.index(0), 16);
        x.filter(0, 2, 1);
        yes("the last band", x.ease(7, 15));
        no("beyond it", x.ease(8, 1));
    }

    private static void promise8Rate() {
        // 5 / 2: the slices begin at bytes 0, 2, 5, 7 and the stream ends at 10.
        Run x = row(0, 0, 0, 0);
        x.slices(4, 1, false);
        yes("rate", x.rate(5, 2));
        same("bytes", x.encode(), 10);
        int[] begins = {0, 2, 5, 7};
        for (int s = 0; s < 4; s++) {
            x.poke(begins[s], 8 * (20 + s));
            same("where slice begins", x.index(s), 20 + s);
        }
        // ROOM: 16 - 5 - 4 of 2 bytes, 24 - 5 - 5 of 3; LENGTH is 4 and 5 bits, all 1.
        x.poke(0, 7);
        x.poke(1, 128);
        same("ROOM of 2 bytes", x.used(0), 7);
        x.poke(2, 7);
        x.poke(3, 192);
        same("ROOM of 3 bytes", x.used(1), 14);
        yes("least", x.rate(2, 1));
        noStream("after rate", x);
        same("least", x.encode(), 8);
        yes("least", x.rate(128, 64));
        same("least", x.encode(), 8);
        yes("most", x.rate(8192, 64));
        same("most", x.encode(), 512);
        yes("most", x.rate(128, 1));
        same("most", x.encode(), 512);
        x.poke(0, 7);
        x.poke(1, 255);
        same("ROOM of 128 bytes", x.used(0), 1019 - 10);
        Run y = hundred();
        yes("rate", y.rate(2, 1));
        noStream("after rate", y);
        noReadPicture("after rate", y);
    }

    private static void promise8RateRefused() {
        Run x = hundred();
        no("den", x.rate(2, 0));
        no("den", x.rate(0, 0));
        no("den", x.rate(-2, -1));
        no("den", x.rate(200, 65));
        no("num", x.rate(1, 1));
        no("num", x.rate(129, 1));
        no("num", x.rate(127, 64));
        no("num", x.rate(8193, 64));
        no("2 * den beyond an int", x.rate(5, 1 << 30));
        no("2 * den beyond an int", x.rate(0, Integer.MIN_VALUE));
        for (int wrong : WRONG) {
            no("wrong", x.rate(wrong, 1));
            no("wrong", x.rate(64, wrong));
        }
        stillHundred("after rate refused", x);
        same("2 bytes still", x.encode(), 2);
    }

    private static void promise9Bands() {
        Run x = new Run(1, 1);
        same("bands", x.bands(), 4);
        int[][] all = {{0, 0, 1}, {0, 1, 2}, {0, 2, 3}, {1, 0, 4}, {1, 1, 5}, {1, 2, 6}, {2, 0, 7}, {2, 1, 8}};
        for (int[] one : all) {
            x.filter(0, one[0], one[1]);
            same("bands", x.bands(), one[2]);
        }
        x.filter(0, 2, 2);
        same("bands after refused", x.bands(), 8);
    }

    // ---- 10: the coefficients

    private static void promise10CoefficientOfTwo() {
        int[][] due = {{14, -12}, {14, -12}, {14, -12}, {7, -6}, {14, -12}, {14, -3}, {18, -9}};
        for (int kind = 0; kind <= 6; kind++) {
            Run x = row(10, 4);
            x.filter(kind, 0, 1);
            coefficients("filter " + kind + " of 10 4", x, due[kind]);
        }
    }

    private static void promise10CoefficientOfFarNeighbours() {
        Run even = new Run(16, 1);
        even.paint(8, 0, 1, 1, 32);
        even.filter(0, 0, 1);
        coefficients("filter 0", even, 0, 0, 0, -8, 48, -8, 0, 0, 0, 0, 0, -32, -32, 0, 0, 0);
        even.filter(1, 0, 1);
        coefficients("filter 1", even, 0, 0, 1, -8, 46, -8, 1, 0, 0, 0, 4, -36, -36, 4, 0, 0);
        even.filter(2, 0, 1);
        coefficients("filter 2", even, 0, 0, 2, -8, 44, -8, 2, 0, 0, 0, 4, -36, -36, 4, 0, 0);
        even.filter(3, 0, 1);
        coefficients("filter 3", even, 0, 0, 0, 0, 16, 0, 0, 0, 0, 0, 0, 0, -32, 0, 0, 0);
        even.filter(4, 0, 1);
        coefficients("filter 4", even, 0, 0, 0, 0, 32, 0, 0, 0, 0, 0, 0, 0, -64, 0, 0, 0);
        even.paint(8, 0, 1, 1, 127);
        even.filter(6, 0, 1);
        coefficients("filter 6", even, 0, 0, 8, -25, 189, -25, 8, 0, 0, 0, 19, -122, -122, 19, 0, 0);
        Run odd = new Run(16, 1);
        odd.paint(7, 0, 1, 1, 64);
        odd.filter(5, 0, 1);
        coefficients("filter 5", odd, -2, 5, -11, 40, 40, -11, 5, -2);
        same("filter 5", odd.coefficient(11, 0), 36);
    }

    private static void promise10CoefficientOrder() {
        Run x = new Run(2, 2);
        x.paint(0, 0, 1, 1, 1);
        x.paint(1, 0, 1, 1, 2);
        x.paint(0, 1, 1, 1, 4);
        x.paint(1, 1, 1, 1, 8);
        x.filter(3, 1, 0);
        same("rows, then columns", x.coefficient(0, 0), 4);
        same("rows, then columns", x.coefficient(1, 0), 3);
        same("rows, then columns", x.coefficient(0, 1), 4);
        same("rows, then columns", x.coefficient(1, 1), 3);
        x.filter(3, 0, 1);
        same("rows alone", x.coefficient(0, 0), 2);
        same("rows alone", x.coefficient(1, 0), 1);
        same("rows alone", x.coefficient(0, 1), 6);
        same("rows alone", x.coefficient(1, 1), 4);
    }

    private static void promise10CoefficientLevels() {
        Run x = new Run(8, 4);
        x.paint(0, 0, 8, 4, 3);
        int[] gains = {1, 1, 1, 0, 1};
        for (int kind = 0; kind <= 4; kind++) {
            x.filter(kind, 2, 1);
            same("an even picture", x.coefficient(0, 0), 3 << (3 * gains[kind]));
            same("an even picture", x.coefficient(1, 0), 0);
            same("an even picture", x.coefficient(7, 3), 0);
        }
        // 8 columns 0 .. 7 by filter 3: O is 1, E is 2k + 1; then O is 2, E is 4k + 2; WIDE then acts on one row.
        Run y = row(0, 1, 2, 3, 4, 5, 6, 7);
        y.filter(3, 0, 2);
        coefficients("two levels WIDE", y, 2, 6, 2, 2, 1, 1, 1, 1);
        y.filter(3, 1, 2);
        coefficients("BOTH, then two WIDE", y, 4, 4, 2, 2, 1, 1, 1, 1);
        for (int i = 0; i < 8; i++) {
            same("the row below", y.coefficient(i, 1), 0);
        }
    }

    /** A filter with fewer levels may leave fewer coefficients: what stood beyond them is there no more. */
    private static void promise10And19FewerCoefficients() {
        Run x = new Run(5, 5);
        x.slope(1, 1);
        x.paint(3, 3, 1, 1, 9);
        for (int kind = 0; kind <= 6; kind++) {
            x.filter(kind, 2, 1);
            x.encode();
            x.decode();
            for (int i = 0; i < 8; i++) {
                x.coefficient(i, 7 - i);
            }
            x.filter(kind, 0, 0);
            x.encode();
            x.decode();
            for (int i = 0; i < 8; i++) {
                same("column 5", x.coefficient(5, i), 0);
                same("row 5", x.coefficient(i, 5), 0);
                same("column 5", x.rebuilt(5, i), 0);
                same("row 5", x.rebuilt(i, 5), 0);
            }
        }
    }

    private static void promise10CoefficientEdges() {
        // 3 columns become 4 (1 2 5 5), one row stays one.
        Run x = row(1, 2, 5);
        x.filter(3, 0, 1);
        coefficients("nearest column", x, 2, 5, 1, 0);
        same("no such column", x.coefficient(4, 0), 0);
        same("no such column", x.coefficient(-1, 0), 0);
        same("no such row", x.coefficient(0, 1), 0);
        same("no such row", x.coefficient(0, -1), 0);
        for (int wrong : WRONG) {
            same("wrong", x.coefficient(wrong, 0), 0);
            same("wrong", x.coefficient(0, wrong), 0);
        }
        x.filter(3, 0, 0);
        coefficients("no level", x, 1, 2, 5, 0);
        // One sample becomes 8 columns and 4 rows.
        Run y = new Run(1, 1);
        y.paint(0, 0, 1, 1, -9);
        y.filter(4, 2, 1);
        same("one sample", y.coefficient(0, 0), -72);
        y.encode();
        y.decode();
        same("the last place", y.rebuilt(0, 0), -72);
        y.paint(0, 0, 1, 1, 5);
        same("as it is now", y.coefficient(0, 0), 40);
    }

    // ---- 11: the stream

    private static void promise11Encode() {
        // q 16: 10000; LENGTH 6: 0110; 6 + 1 is 111: 01 01 1, and a 0 for v > 0.
        Run x = tight(100);
        same("bytes", x.encode(), 2);
        bytes("100", x, 131, 44);
        same("used", x.used(0), 6);
        // The finest quantiser, where there's room: 100 + 1 is 1100101: 01 00 00 01 00 01 1 0, LENGTH 14.
        Run y = row(100);
        same("bytes", y.encode(), 128);
        // 00000 0000001110 01000001000110
        bytes("100 in 128 bytes", y, 0, 28, 130, 48, 0);
        same("decode", y.decode(), 0);
        // The picture as it is now, without what was there before.
        y.paint(0, 0, 1, 1, 0);
        same("bytes", y.encode(), 128);
        for (int k = 0; k < 128; k++) {
            same("all 0", y.byteAt(k), 0);
        }
        same("the read picture stays", y.decoded(0, 0), 100);
        same("the rebuilt one too", y.rebuilt(0, 0), 100);
    }

    private static void promise11EncodeLeavesOutLastOnes() {
        // r 7: F is 13, 400 / 13 is 30; 31 is 11111: 01 01 01 01 1, and a 1 for v < 0: 7 bits up to the last 0.
        Run x = tight(-100);
        x.encode();
        same("index", x.index(0), 7);
        same("used", x.used(0), 7);
        bytes("-100", x, 59, 170);
        x.decode();
        same("rebuilt", x.rebuilt(0, 0), -99);
        // 0010 1 1 0011 1: the last 0 is bit 8 of 11, so 00000 0000001000 00101100 is what is written.
        Run y = row(1, 0, 0, -1, 0);
        y.encode();
        same("used", y.used(0), 8);
        bytes("1 0 0 -1 0", y, 0, 16, 0x58, 0);
        same("nonzero", y.nonzero(0), 2);
        same("decode", y.decode(), 0);
    }

    private static void promise11EncodeCutsOff() {
        // r 16 at the most: the number is 7 or more; 8 is 1000: 00 00 00 1, and a 0: one bit too many.
        Run x = tight(127);
        x.ease(0, 15);
        same("bytes", x.encode(), 2);
        bytes("127", x, 251, 129);
        same("index", x.index(0), 31);
        same("used", x.used(0), 7);
        same("nonzero", x.nonzero(0), 1);
        same("decode", x.decode(), 1);
        // The sign is beyond the block: a 1. The value of 7 is (7 * 64 + 32 + 2) >> 2.
        same("rebuilt", x.rebuilt(0, 0), -120);
        same("error", x.error(), 247 * 247);
    }

    private static void promise11EncodePredictsFromReading() {
        // Slice 0 is cut off and read as -120, so slice 1 has 247: the number 15, 16 is 10000: cut off too.
        Run x = row(127, 127);
        x.rate(2, 1);
        x.slices(2, 1, true);
        x.ease(0, 15);
        same("bytes", x.encode(), 4);
        bytes("cut off", x, 251, 129, 251, 128);
        // 00 00 00 0 and then ones: n is 17, v is -16, its value -264.
        x.decode();
        same("rebuilt 0", x.rebuilt(0, 0), -120);
        same("rebuilt 1", x.rebuilt(1, 0), -384);
        // In one slice the prediction is from the values: 100 as 104 (r 16), then 100 - 104 as 0.
        Run y = row(100, 100);
        y.rate(2, 1);
        y.slices(1, 1, true);
        y.encode();
        same("index", y.index(0), 16);
        bytes("in one slice", y, 131, 44);
        y.decode();
        same("rebuilt 1", y.rebuilt(1, 0), 104);
        // Without prediction the two numbers are alike: even two 1 (0010 0010) have one bit too many, and there are
        // such up to r 26, where 400 / 362 is 1.
        y.slices(1, 1, false);
        y.encode();
        same("index", y.index(0), 27);
        same("used", y.used(0), 0);
    }

    private static void promise11EncodeOrder() {
        // Bands by filter 3, BOTH and WIDE over 4 by 2: 0 at (0, 0), 1 at (1, 0), 2 at (2, 0), (3, 0), 3 at (0, 1),
        // (1, 1), 4 at (2, 1), (3, 1). The numbers 1 2 3 4 5 6 7 8 are poked in, and stand there in that order.
        Run x = new Run(4, 2);
        x.filter(3, 1, 1);
        x.encode();
        pokeBits(x, "00000 0000110000 0010 0110 000010 000110 010010 010110 00000010 00000110");
        int[][] places = {{0, 0}, {1, 0}, {2, 0}, {3, 0}, {0, 1}, {1, 1}, {2, 1}, {3, 1}};
        x.decode();
        for (int i = 0; i < 8; i++) {
            same("place " + i, x.rebuilt(places[i][0], places[i][1]), i + 1);
        }
    }

    private static void promise11EncodeTakesLeastQuantiser() {
        // Not every quantiser above one that fits does: -100 fits at 7 (-30, 7 bits), not at 8 (-25, 26 is 11010).
        Run x = tight(-100);
        x.encode();
        same("least", x.index(0), 7);
        // -64: at r 0 65 is 1000001, k is 6; r 1: 51, 52 is 110100; r 2: 42; r 3: 36; r 4: 32, 33 is 100001, k is 5;
        // r 5: 25, 26 is 11010, 8 bits; r 6: 23, 24 is 11000; r 7: 19, 20; r 8: 16, 17 is 10001: 7 bits.
        Run y = tight(-64);
        y.encode();
        same("least", y.index(0), 8);
        Run z = tight(0);
        z.encode();
        same("least", z.index(0), 0);
        same("nothing used", z.used(0), 0);
    }

    // ---- 12 to 16: the bytes and the slices

    private static void promise12ByteAt() {
        Run x = tight(100);
        same("no stream", x.byteAt(0), -1);
        x.encode();
        same("first", x.byteAt(0), 131);
        same("last", x.byteAt(1), 44);
        same("beyond", x.byteAt(2), -1);
        same("before", x.byteAt(-1), -1);
        for (int wrong : WRONG) {
            same("wrong", x.byteAt(wrong), -1);
        }
        Run y = new Run(16, 16);
        y.slices(4, 4, false);
        y.encode();
        same("last of all", y.byteAt(2047), 0);
        same("beyond all", y.byteAt(2048), -1);
    }

    private static void promise13Poke() {
        Run x = hundred();
        yes("poke", x.poke(1, 255));
        same("poked", x.byteAt(1), 255);
        same("the other", x.byteAt(0), 131);
        yes("poke", x.poke(0, 0));
        same("poked", x.byteAt(0), 0);
        same("the read picture stays", x.decoded(0, 0), 104);
        same("the rebuilt one too", x.rebuilt(0, 0), 104);
        same("error", x.error(), 16);
        no("b", x.poke(0, 256));
        no("b", x.poke(0, -1));
        no("k", x.poke(2, 1));
        no("k", x.poke(-1, 1));
        for (int wrong : WRONG) {
            no("wrong", x.poke(wrong, 1));
            no("wrong", x.poke(0, wrong == 129 ? 257 : wrong));
        }
        same("refused changes nothing", x.byteAt(0), 0);
        same("refused changes nothing", x.byteAt(1), 255);
        x.encode();
        stillHundred("written again", x);
    }

    private static void promise14Index() {
        Run x = tight(0);
        same("no stream", x.index(0), -1);
        x.encode();
        for (int q = 0; q < 32; q++) {
            x.poke(0, 8 * q + 5);
            same("index", x.index(0), q);
        }
        same("beyond", x.index(1), -1);
        same("before", x.index(-1), -1);
        for (int wrong : WRONG) {
            same("wrong", x.index(wrong), -1);
        }
    }

    private static void promise15Used() {
        Run x = tight(0);
        same("no stream", x.used(0), -1);
        x.encode();
        for (int length = 0; length < 16; length++) {
            x.poke(0, 248 + length / 2);
            x.poke(1, 128 * (length % 2) + 127);
            same("used", x.used(0), Math.min(length, 7));
        }
        same("beyond", x.used(1), -1);
        same("before", x.used(-1), -1);
        for (int wrong : WRONG) {
            same("wrong", x.used(wrong), -1);
        }
    }

    private static void promise16Nonzero() {
        Run x = row(0, 0, 0, 0, 0);
        x.rate(3, 1);
        same("no stream", x.nonzero(0), -1);
        x.encode();
        same("none", x.nonzero(0), 0);
        // 24 - 5 is 19: LENGTH has 5 bits, ROOM is 14. 1 0 -1 0 2 and a last bit that is not read.
        pokeBits(x, "00000 01110 0010 1 0011 1 0110");
        same("three", x.nonzero(0), 3);
        pokeBits(x, "00000 00100 0010 1 0011 1 0110");
        same("bits beyond the block are ones", x.nonzero(0), 1);
        pokeBits(x, "00000 00001 0010 1 0011 1 0110");
        // 0, and then ones: n is 3, v is -2.
        same("a number that goes beyond", x.nonzero(0), 1);
        pokeBits(x, "11111 11111 0010 1 0011 1 0110");
        same("too long a LENGTH is ROOM", x.nonzero(0), 3);
        same("beyond", x.nonzero(1), -1);
        same("before", x.nonzero(-1), -1);
        for (int wrong : WRONG) {
            same("wrong", x.nonzero(wrong), -1);
        }
    }

    // ---- 17 to 20: the read picture

    private static void promise17Decode() {
        Run x = tight(100);
        same("no stream", x.decode(), -1);
        noReadPicture("no stream", x);
        x.encode();
        noReadPicture("not read yet", x);
        same("one sample differs", x.decode(), 1);
        stillHundred("read", x);
        x.paint(0, 0, 1, 1, 104);
        same("as the picture is now", x.decode(), 0);
        for (int kind = 0; kind <= 6; kind++) {
            Run y = new Run(13, 11);
            y.slope(11, -7);
            y.paint(3, 2, 5, 4, -128);
            y.paint(6, 5, 1, 6, 127);
            y.slices(3, 4, kind % 2 == 0);
            for (int both = 0; both <= 2; both++) {
                y.filter(kind, both, both == 2 ? 1 : 2);
                y.encode();
                same("all is kept where there is room, filter " + kind, y.decode(), 0);
                same("error", y.error(), 0);
            }
        }
    }

    private static void promise17DecodeQuantisers() {
        Run x = tight(0);
        x.encode();
        for (int q = 0; q < 32; q++) {
            String head = Integer.toBinaryString(32 + q).substring(1);
            pokeBits(x, head + " 0100 0010 000");
            x.decode();
            same("1 at " + q, x.rebuilt(0, 0), (F[q] + H[q] + 2) / 4);
            pokeBits(x, head + " 0111 0000011");
            x.decode();
            same("-8 at " + q, x.rebuilt(0, 0), -((8 * F[q] + H[q] + 2) / 4));
            pokeBits(x, head + " 0001 1 000000");
            x.decode();
            same("0 at " + q, x.rebuilt(0, 0), 0);
        }
    }

    private static void promise17DecodeBiggestNumbers() {
        Run x = row(0, 0, 0);
        x.rate(24, 1);
        x.encode();
        String zeros = "00".repeat(26);
        String ones = "01".repeat(26);
        // 192 - 5 is 187: LENGTH has 8 bits, ROOM is 179. After 26 digits there is no 1, just the sign.
        pokeBits(x, "00000 01101110" + zeros + "0" + ones + "1" + "0010");
        x.decode();
        same("2^26 - 1", x.rebuilt(0, 0), (1 << 26) - 1);
        same("-(2^27 - 2)", x.rebuilt(1, 0), 2 - (1 << 27));
        same("what comes next", x.rebuilt(2, 0), 1);
        same("nonzero", x.nonzero(0), 3);
        same("decoded", x.decoded(0, 0), 127);
        same("decoded", x.decoded(1, 0), -128);
        same("decoded", x.decoded(2, 0), 1);
        pokeBits(x, "11111 01101110" + zeros + "0" + ones + "1" + "0010");
        x.decode();
        same("not more than 2^27", x.rebuilt(0, 0), 1 << 27);
        same("not less than -2^27", x.rebuilt(1, 0), -(1 << 27));
        // What a picture is made of may be that far off: filter 3 joins 2^27 and -2^27.
        x.filter(3, 0, 1);
        x.encode();
        pokeBits(x, "11111 01101010" + zeros + "0" + "1" + ones + "1");
        same("decode", x.decode(), 2);
        same("rebuilt", x.rebuilt(2, 0), -(1 << 27));
        same("2^27 + 2^26", x.decoded(0, 0), 127);
        same("2^26", x.decoded(1, 0), 127);
        same("the next two", x.decoded(2, 0), 0);
    }

    private static void promise17DecodePrediction() {
        // 2 by 2, no level: 1, 2, 3, -9 in the stream: 1; 1 + 2; 1 + 3; (3 + 4 + 1 + 1) / 3 - 9.
        Run x = new Run(2, 2);
        x.filter(3, 0, 0);
        x.slices(1, 1, true);
        x.rate(16, 1);
        x.encode();
        // 2 is 10, 3 is 11, 4 is 100, 10 is 1010.
        pokeBits(x, "00000 0010110 0010 0110 000010 00010011");
        x.decode();
        same("first", x.rebuilt(0, 0), 1);
        same("from the left", x.rebuilt(1, 0), 3);
        same("from above", x.rebuilt(0, 1), 4);
        same("from three", x.rebuilt(1, 1), 3 - 9);
        // -1 each: -1, -2, -2, and (-2 - 2 - 1 + 1) / 3 rounded down is -2.
        pokeBits(x, "00000 0001111 0011 0011 0011 0011");
        x.decode();
        same("rounded down", x.rebuilt(1, 1), -3);
        // Only in band 0: filter 3 with one level WIDE has a second band.
        x.filter(3, 0, 1);
        x.encode();
        pokeBits(x, "00000 0010000 0010 0010 0010 0010");
        x.decode();
        same("band 0", x.rebuilt(0, 0), 1);
        same("band 0", x.rebuilt(0, 1), 2);
        same("band 1", x.rebuilt(1, 0), 1);
        same("band 1", x.rebuilt(1, 1), 1);
        // Held to 2^27 with the prediction too: 2^27, then 2^27 + 1, then 2^27 - 1.
        Run y = row(0, 0, 0);
        y.slices(1, 1, true);
        y.rate(16, 1);
        y.encode();
        // q 1: F is 5, H is 2: the value of 2^27 - 2 is over 2^27, that of 1 is (5 + 4) >> 2.
        pokeBits(y, "00001 0111101" + "01".repeat(26) + "0" + "0010" + "0011");
        y.decode();
        same("held", y.rebuilt(0, 0), 1 << 27);
        same("held", y.rebuilt(1, 0), 1 << 27);
        same("from what was held", y.rebuilt(2, 0), (1 << 27) - 2);
    }

    private static void promise18Decoded() {
        Run x = new Run(3, 2);
        x.paint(2, 1, 1, 1, 55);
        same("no read picture", x.decoded(2, 1), NONE);
        x.encode();
        same("no read picture", x.decoded(2, 1), NONE);
        x.decode();
        same("decoded", x.decoded(2, 1), 55);
        same("decoded", x.decoded(1, 1), 0);
        same("no place", x.decoded(3, 1), NONE);
        same("no place", x.decoded(2, 2), NONE);
        same("no place", x.decoded(-1, 0), NONE);
        same("no place", x.decoded(0, -1), NONE);
        for (int wrong : WRONG) {
            same("wrong", x.decoded(wrong, 0), NONE);
            same("wrong", x.decoded(0, wrong), NONE);
        }
    }

    private static void promise19Rebuilt() {
        Run x = row(1, 2, 5);
        x.filter(3, 0, 1);
        x.encode();
        same("no read picture", x.rebuilt(0, 0), 0);
        x.decode();
        int[] due = {2, 5, 1, 0};
        for (int i = 0; i < 4; i++) {
            same("rebuilt", x.rebuilt(i, 0), due[i]);
        }
        same("no coefficient", x.rebuilt(4, 0), 0);
        same("no coefficient", x.rebuilt(0, 1), 0);
        same("no coefficient", x.rebuilt(-1, 0), 0);
        same("no coefficient", x.rebuilt(0, -1), 0);
        for (int wrong : WRONG) {
            same("wrong", x.rebuilt(wrong, 0), 0);
            same("wrong", x.rebuilt(0, wrong), 0);
        }
        // Beyond the picture, but not beyond its coefficients: 3 columns and 1 row become 4 and 2.
        x.filter(4, 1, 0);
        x.encode();
        pokeBits(x, "00000 0000000100 0010");
        x.decode();
        same("the one", x.rebuilt(0, 0), 1);
        same("the last", x.rebuilt(3, 1), 0);
        pokeBits(x, "00000 0000001011 111 111 1 0010");
        x.decode();
        same("the last", x.rebuilt(3, 1), 1);
    }

    private static void promise20Error() {
        Run x = row(10, 20, 30);
        same("no read picture", x.error(), -1);
        x.encode();
        same("no read picture", x.error(), -1);
        x.decode();
        same("none", x.error(), 0);
        x.paint(0, 0, 1, 1, 13);
        x.paint(2, 0, 1, 1, -128);
        same("as the picture is now", x.error(), 9 + 158 * 158);
        Run y = new Run(16, 16);
        y.paint(0, 0, 16, 16, -128);
        y.filter(3, 0, 0);
        y.slices(4, 4, false);
        y.encode();
        y.decode();
        y.paint(0, 0, 16, 16, 127);
        same("the most", y.error(), 256 * 255 * 255);
        same("all differ", y.decode(), 256);
    }

    private static void readPictureOutlivesPictureAndStream() {
        Run x = hundred();
        x.paint(0, 0, 1, 1, -50);
        x.encode();
        x.coefficient(0, 0);
        x.index(0);
        x.used(0);
        x.nonzero(0);
        x.poke(1, 255);
        same("decoded", x.decoded(0, 0), 104);
        same("rebuilt", x.rebuilt(0, 0), 104);
        same("error", x.error(), 154 * 154);
    }
}
