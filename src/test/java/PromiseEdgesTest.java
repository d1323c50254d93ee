/** The sentences of the promises that name a boundary case, each with a test of its own. */
public final class PromiseEdgesTest extends Scenes {
    /** Numbers that are beyond every bound, on both sides of it, and where sums and products leave an int. */
    private static final int[] FAR_OUT = {
        Integer.MIN_VALUE, Integer.MIN_VALUE + 1, -(1 << 30), -65536, -1000, 1000, 65536, 1 << 30, (1 << 30) + 1,
        Integer.MAX_VALUE - 1, Integer.MAX_VALUE,
    };

    public static void main(String[] args) {
        check = new Check("PromiseEdgesTest");
        promise1SizesBeyond();
        promise2PaintsWhatIsThere();
        promise2Refused();
        promise2StreamAndReadPictureStay();
        promise3SamplesAreHeld();
        promise3Refused();
        promise3StreamAndReadPictureStay();
        promise4NoSuchSample();
        promise5EveryEaseBecomesNone();
        promise5Refused();
        promise6Refused();
        promise7Refused();
        promise8Refused();
        promise9Bands();
        promise10NoSuchCoefficient();
        promise10AsThePictureIsNow();
        promise11BytesAndReadPicture();
        promise12NoSuchByte();
        promise13Refused();
        promise13ReadPictureStays();
        promise14NoSuchSlice();
        promise15NoSuchSlice();
        promise15NotMoreThanRoom();
        promise16NoSuchSlice();
        promise17NoStream();
        promise17AsThePictureIsNow();
        promise18NoSuchSample();
        promise19NoSuchCoefficient();
        promise20NoReadPicture();
        promise20LeastAndMost();
        check.end();
    }

    // ---- 1 to 4: the picture

    private static void promise1SizesBeyond() {
        says("WIDTH is width, HEIGHT is height; each that is less than 1 counts as 1, more than 16 as 16.");
        int[][] sizes = {
            {Integer.MIN_VALUE, 1}, {-16, 1}, {-1, 1}, {0, 1}, {1, 1}, {2, 2}, {15, 15}, {16, 16}, {17, 16}, {32, 16},
            {Integer.MAX_VALUE, 16},
        };
        for (int[] w : sizes) {
            for (int[] h : sizes) {
                Run x = new Run(w[0], h[0]);
                String what = "new " + w[0] + " " + h[0];
                for (int i = 0; i <= 17; i++) {
                    same(what + ": column " + i, x.sample(i, 0), i < w[1] ? 0 : NONE);
                    same(what + ": row " + i, x.sample(0, i), i < h[1] ? 0 : NONE);
                }
                same(what + ": the last", x.sample(w[1] - 1, h[1] - 1), 0);
                yes(what + ": paint the last", x.paint(w[1] - 1, h[1] - 1, 1, 1, 9));
                no(what + ": paint beyond", x.paint(w[1], h[1] - 1, 1, 1, 9));
                no(what + ": paint beyond", x.paint(w[1] - 1, h[1], 1, 1, 9));
                x.encode();
                same(what + ": decode", x.decode(), 0);
                same(what + ": decoded", x.decoded(w[1] - 1, h[1] - 1), 9);
            }
        }
    }

    private static void promise2PaintsWhatIsThere() {
        says("All samples in columns x .. x + w - 1 and rows y .. y + h - 1 that are there become v.");
        int[][] sizes = {{16, 16}, {5, 4}, {1, 1}, {1, 16}, {16, 1}};
        int[][] parts = {
            {0, 0, 1, 1}, {0, 0, 16, 16}, {0, 0, 16, 1}, {0, 0, 1, 16}, {4, 3, 1, 1}, {4, 3, 16, 16}, {3, 2, 2, 2},
            {3, 2, 1, 2}, {3, 2, 3, 1}, {15, 15, 1, 1}, {15, 15, 16, 16}, {15, 0, 2, 16}, {0, 15, 16, 2}, {7, 7, 9, 9},
            {7, 7, 8, 8}, {7, 7, 10, 10},
        };
        for (int[] size : sizes) {
            for (int[] p : parts) {
                if (p[0] < size[0] && p[1] < size[1]) {
                    paintsOnly(size, p);
                }
            }
        }
    }

    private static void paintsOnly(int[] size, int[] p) {
        Run x = new Run(size[0], size[1]);
        x.paint(0, 0, 16, 16, 3);
        yes("paint", x.paint(p[0], p[1], p[2], p[3], -128));
        for (int j = 0; j < size[1]; j++) {
            for (int i = 0; i < size[0]; i++) {
                boolean inside = i >= p[0] && i <= p[0] + p[2] - 1 && j >= p[1] && j <= p[1] + p[3] - 1;
                same("painted at " + i + " " + j, x.sample(i, j), inside ? -128 : 3);
            }
        }
    }

    private static void promise2Refused() {
        says("False when (x, y) is no place of the picture, w or h is not 1 .. 16, or v is not -128 .. 127.");
        Run x = new Run(5, 4);
        yes("the last column", x.paint(4, 0, 1, 1, 0));
        yes("the last row", x.paint(0, 3, 1, 1, 0));
        yes("the most columns and rows", x.paint(0, 0, 16, 16, 0));
        yes("the least sample", x.paint(0, 0, 1, 1, -128));
        yes("the most", x.paint(0, 0, 1, 1, 127));
        no("column -1", x.paint(-1, 0, 2, 2, 1));
        no("column 5", x.paint(5, 0, 1, 1, 1));
        no("row -1", x.paint(0, -1, 2, 2, 1));
        no("row 4", x.paint(0, 4, 1, 1, 1));
        no("no columns", x.paint(0, 0, 0, 1, 1));
        no("17 columns", x.paint(0, 0, 17, 1, 1));
        no("no rows", x.paint(0, 0, 1, 0, 1));
        no("17 rows", x.paint(0, 0, 1, 17, 1));
        no("-1 columns", x.paint(4, 3, -1, 1, 1));
        no("-1 rows", x.paint(4, 3, 1, -1, 1));
        no("-129", x.paint(0, 0, 1, 1, -129));
        no("128", x.paint(0, 0, 1, 1, 128));
        for (int far : FAR_OUT) {
            no("column " + far, x.paint(far, 0, 1, 1, 1));
            no("row " + far, x.paint(0, far, 1, 1, 1));
            no("columns " + far, x.paint(4, 0, far, 1, 1));
            no("rows " + far, x.paint(0, 3, 1, far, 1));
            no("sample " + far, x.paint(0, 0, 1, 1, far));
        }
        for (int i = 0; i < 20; i++) {
            same("as it was", x.sample(i % 5, i / 5), i == 0 ? 127 : 0);
        }
    }

    private static void promise2StreamAndReadPictureStay() {
        says("or v is not -128 .. 127. (The stream and the read picture stay.)");
        Run x = hundred();
        yes("paint", x.paint(0, 0, 16, 16, 5));
        bytes("the stream stays", x, 131, 44);
        same("used", x.used(0), 6);
        same("nonzero", x.nonzero(0), 1);
        same("the read picture stays", x.decoded(0, 0), 104);
        same("rebuilt", x.rebuilt(0, 0), 104);
        same("error", x.error(), 99 * 99);
        same("decode reads what was written", x.decode(), 1);
        same("decoded", x.decoded(0, 0), 104);
    }

    private static void promise3SamplesAreHeld() {
        says("Adds across * x + down * y to the sample at each place (x, y) of the picture;"
            + " what is less than -128 becomes -128, more than 127 becomes 127.");
        int[][] due = {
            {-100, -27, -127}, {-100, -28, -128}, {-100, -29, -128}, {-100, -32, -128}, {-128, -1, -128},
            {-128, 1, -127}, {100, 26, 126}, {100, 27, 127}, {100, 28, 127}, {100, 32, 127}, {127, 1, 127},
            {127, -1, 126}, {0, 0, 0}, {0, 32, 32}, {0, -32, -32},
        };
        for (int[] one : due) {
            Run across = row(9, one[0]);
            yes("slope", across.slope(one[1], 32));
            same(one[0] + " and " + one[1] + " across", across.sample(1, 0), one[2]);
            same("column 0, row 0", across.sample(0, 0), 9);
            Run down = new Run(1, 2);
            down.paint(0, 1, 1, 1, one[0]);
            yes("slope", down.slope(-32, one[1]));
            same(one[0] + " and " + one[1] + " down", down.sample(0, 1), one[2]);
            same("column 0, row 0", down.sample(0, 0), 0);
        }
        // Held only when both are added: 127 + 32 * 15 - 32 * 15.
        Run x = new Run(16, 16);
        x.paint(0, 0, 16, 16, 127);
        yes("slope", x.slope(32, -32));
        for (int i = 0; i < 16; i++) {
            same("up and down", x.sample(i, i), 127);
            same("down alone", x.sample(0, i), Math.max(-128, 127 - 32 * i));
            same("up alone", x.sample(i, 0), 127);
        }
    }

    private static void promise3Refused() {
        says("False when across or down is not -32 .. 32.");
        Run x = new Run(2, 2);
        yes("the most", x.slope(32, 32));
        yes("the least", x.slope(-32, -32));
        no("across 33", x.slope(33, 0));
        no("across -33", x.slope(-33, 0));
        no("down 33", x.slope(0, 33));
        no("down -33", x.slope(0, -33));
        for (int far : FAR_OUT) {
            no("across " + far, x.slope(far, 1));
            no("down " + far, x.slope(1, far));
            no("both " + far, x.slope(far, far));
        }
        for (int i = 0; i < 4; i++) {
            same("as it was", x.sample(i % 2, i / 2), 0);
        }
    }

    private static void promise3StreamAndReadPictureStay() {
        says("False when across or down is not -32 .. 32. (The stream and the read picture stay.)");
        Run x = row(0, 60);
        x.encode();
        x.decode();
        int first = x.byteAt(0);
        int second = x.byteAt(1);
        yes("slope", x.slope(7, 7));
        bytes("the stream stays", x, first, second);
        same("the read picture stays", x.decoded(1, 0), 60);
        same("rebuilt", x.rebuilt(1, 0), 60);
        same("error", x.error(), 49);
        same("decode reads what was written", x.decode(), 1);
        same("decoded", x.decoded(1, 0), 60);
    }

    private static void promise4NoSuchSample() {
        says("The sample at (x, y); NONE when it is no place of the picture.");
        says("`NONE = -1000`: No such sample: what sample and decoded answer then.");
        same("NONE", WaveletSlices.NONE, -1000);
        Run x = new Run(3, 2);
        x.paint(0, 0, 3, 2, 8);
        for (int j = -2; j <= 3; j++) {
            for (int i = -2; i <= 4; i++) {
                same("at " + i + " " + j, x.sample(i, j), i >= 0 && i < 3 && j >= 0 && j < 2 ? 8 : -1000);
            }
        }
        for (int far : FAR_OUT) {
            same("column " + far, x.sample(far, 0), -1000);
            same("row " + far, x.sample(0, far), -1000);
        }
        // More columns have a coefficient, but there is no sample.
        x.filter(3, 0, 2);
        same("column 3", x.sample(3, 0), -1000);
    }

    // ---- 5 to 9: the setup

    private static void promise5EveryEaseBecomesNone() {
        says("Sets filter, D and E; every ease becomes 0.");
        Run x = new Run(8, 4);
        x.filter(1, 2, 1);
        for (int band = 0; band < 8; band++) {
            yes("ease", x.ease(band, 15 - band));
        }
        yes("the filter that it was", x.filter(1, 2, 1));
        x.encode();
        pokeSlice(x, 128, 31, numbers(1).repeat(32));
        x.decode();
        for (int i = 0; i < 32; i++) {
            same("no ease at " + i % 8 + " " + i / 8, x.rebuilt(i % 8, i / 8), 323);
        }
        // Nor is there one of a band that was not there in between.
        x.ease(7, 15);
        x.filter(3, 0, 0);
        x.filter(1, 2, 1);
        x.encode();
        pokeSlice(x, 128, 31, numbers(1).repeat(32));
        x.decode();
        same("band 7", x.rebuilt(7, 3), 323);
    }

    private static void promise5Refused() {
        says("False when one of them, or D + E, is not as said under SETUP.");
        says("a FILTER 0 .. 6, D levels BOTH (0 .. 2) and E levels WIDE (0 .. 2) with D + E at most 3");
        for (int kind = -2; kind <= 8; kind++) {
            for (int both = -2; both <= 4; both++) {
                for (int wide = -2; wide <= 5; wide++) {
                    boolean fine = kind >= 0 && kind <= 6 && both >= 0 && both <= 2 && wide >= 0 && wide <= 2
                        && both + wide <= 3;
                    Run x = new Run(2, 2);
                    String what = "filter " + kind + " " + both + " " + wide;
                    same(what, x.filter(kind, both, wide) ? 1 : 0, fine ? 1 : 0);
                    same(what + ": bands", x.bands(), fine ? 1 + wide + 3 * both : 4);
                }
            }
        }
        Run x = new Run(2, 2);
        for (int far : FAR_OUT) {
            no("kind " + far, x.filter(far, 0, 1));
            no("BOTH " + far, x.filter(3, far, 1));
            no("WIDE " + far, x.filter(3, 0, far));
            no("BOTH and WIDE " + far, x.filter(3, far, far));
            no("a sum of 0", x.filter(3, far, -far));
            no("a sum of 2", x.filter(3, far, 2 - far));
        }
        same("bands", x.bands(), 4);
    }

    private static void promise6Refused() {
        says("False when across or down is not 1 .. 4.");
        for (int across = -1; across <= 6; across++) {
            for (int down = -1; down <= 6; down++) {
                boolean fine = across >= 1 && across <= 4 && down >= 1 && down <= 4;
                Run x = new Run(2, 2);
                x.rate(2, 1);
                same("slices " + across + " " + down, x.slices(across, down, true) ? 1 : 0, fine ? 1 : 0);
                same("bytes", x.encode(), fine ? 2 * across * down : 2);
            }
        }
        Run x = new Run(2, 2);
        for (int far : FAR_OUT) {
            no("across " + far, x.slices(far, 2, true));
            no("down " + far, x.slices(2, far, true));
        }
        same("bytes", x.encode(), 128);
    }

    private static void promise7Refused() {
        says("False when there is no such band, or m is not 0 .. 15.");
        for (int[] level : LEVELS) {
            Run x = new Run(1, 1);
            x.filter(0, level[0], level[1]);
            int bands = 1 + level[1] + 3 * level[0];
            for (int band = -3; band <= 11; band++) {
                boolean there = band >= 0 && band < bands;
                same("band " + band + " of " + bands, x.ease(band, 1) ? 1 : 0, there ? 1 : 0);
            }
            for (int m = -2; m <= 18; m++) {
                same("m " + m, x.ease(bands - 1, m) ? 1 : 0, m >= 0 && m <= 15 ? 1 : 0);
                no("m " + m + " of no band", x.ease(bands, m));
            }
        }
        Run x = new Run(1, 1);
        for (int far : FAR_OUT) {
            no("band " + far, x.ease(far, 0));
            no("m " + far, x.ease(0, far));
        }
    }

    private static void promise8Refused() {
        says("False when den is not 1 .. 64, or num is less than 2 * den or more than 128 * den.");
        for (int den = 1; den <= 64; den++) {
            Run x = new Run(1, 1);
            no("less than 2 * " + den, x.rate(2 * den - 1, den));
            same("as it was", x.encode(), 128);
            yes("2 * " + den, x.rate(2 * den, den));
            same("the least", x.encode(), 2);
            yes("2 * " + den + " + 1", x.rate(2 * den + 1, den));
            yes("128 * " + den + " - 1", x.rate(128 * den - 1, den));
            yes("128 * " + den, x.rate(128 * den, den));
            same("the most", x.encode(), 128);
            no("more than 128 * " + den, x.rate(128 * den + 1, den));
            no("0", x.rate(0, den));
            no("-1", x.rate(-1, den));
        }
        Run x = new Run(1, 1);
        for (int den : new int[] {-64, -2, -1, 0, 65, 66, 128}) {
            for (int times : new int[] {-128, -2, 0, 1, 2, 3, 64, 128}) {
                no("rate " + times * den + " " + den, x.rate(times * den, den));
            }
        }
        for (int far : FAR_OUT) {
            no("num " + far, x.rate(far == 1000 ? 129 : far, 1));
            no("den " + far, x.rate(64, far));
            no("both " + far, x.rate(far, far));
            // 2 * den leaves an int for some of these.
            no("twice " + far, x.rate(2 * far, far));
        }
        same("as it was", x.encode(), 128);
    }

    private static void promise9Bands() {
        says("How many bands there are: 1 + E + 3 * D.");
        Run x = new Run(16, 16);
        same("at first", x.bands(), 4);
        int[] due = {1, 2, 3, 4, 5, 6, 7, 8};
        for (int i = 0; i < LEVELS.length; i++) {
            yes("filter", x.filter(6, LEVELS[i][0], LEVELS[i][1]));
            same("bands", x.bands(), due[i]);
        }
        no("filter", x.filter(6, 2, 2));
        same("after a filter that was refused", x.bands(), 8);
    }

    // ---- 10 to 16: coefficients and stream

    private static void promise10NoSuchCoefficient() {
        says("0 when there is none there (x is not 0 .. P - 1, or y is not 0 .. Q - 1)");
        // 0 100 0 becomes 0 100 0 0: filter 5 leaves nothing 0 of it, in a column that the picture does not have.
        Run x = row(0, 100, 0);
        x.filter(5, 0, 1);
        coefficients("filter 5", x, 113, 50, 59, -21, 0, 0);
        same("column -1", x.coefficient(-1, 0), 0);
        same("row 1", x.coefficient(0, 1), 0);
        same("row -1", x.coefficient(0, -1), 0);
        Run y = new Run(16, 16);
        y.paint(0, 0, 16, 16, 50);
        y.filter(3, 0, 0);
        for (int i = -2; i <= 18; i++) {
            int due = i >= 0 && i < 16 ? 50 : 0;
            same("column " + i, y.coefficient(i, 15), due);
            same("row " + i, y.coefficient(15, i), due);
        }
        for (int far : FAR_OUT) {
            same("column " + far, y.coefficient(far, 0), 0);
            same("row " + far, y.coefficient(0, far), 0);
            same("both " + far, y.coefficient(far, far), 0);
        }
        Run z = new Run(5, 3);
        z.paint(0, 0, 5, 3, 50);
        z.filter(3, 0, 0);
        same("the last", z.coefficient(4, 2), 50);
        same("column 5", z.coefficient(5, 2), 0);
        same("row 3", z.coefficient(4, 3), 0);
    }

    private static void promise10AsThePictureIsNow() {
        says("The coefficient at (x, y) of the picture as it is now");
        Run x = hundred();
        same("before", x.coefficient(0, 0), 100);
        x.paint(0, 0, 1, 1, -3);
        same("after paint", x.coefficient(0, 0), -3);
        x.paint(0, 0, 1, 1, 4);
        x.filter(4, 2, 1);
        same("after filter", x.coefficient(0, 0), 32);
    }

    private static void promise11BytesAndReadPicture() {
        says("Writes the stream of the picture as it is now (the read picture stays). Answers its number of bytes.");
        Run x = hundred();
        x.paint(0, 0, 1, 1, -100);
        same("the least", x.encode(), 2);
        bytes("the picture as it is now", x, 59, 170);
        same("decoded", x.decoded(0, 0), 104);
        same("rebuilt", x.rebuilt(0, 0), 104);
        same("error", x.error(), 204 * 204);
        Run y = new Run(16, 16);
        y.slices(4, 4, false);
        same("the most", y.encode(), 2048);
    }

    private static void promise12NoSuchByte() {
        says("Byte k of the stream, 0 .. 255; -1 when there is no stream or no such byte.");
        Run x = tight(100);
        same("no stream", x.byteAt(0), -1);
        x.encode();
        same("byte -1", x.byteAt(-1), -1);
        same("byte 0", x.byteAt(0), 131);
        same("byte 1", x.byteAt(1), 44);
        same("byte 2", x.byteAt(2), -1);
        for (int far : FAR_OUT) {
            same("byte " + far, x.byteAt(far), -1);
        }
        x.poke(0, 255);
        same("255", x.byteAt(0), 255);
        x.poke(0, 128);
        same("128", x.byteAt(0), 128);
        x.poke(0, 0);
        same("0", x.byteAt(0), 0);
        x.rate(3, 1);
        same("no stream after rate", x.byteAt(0), -1);
        x.encode();
        // 00000 01110 01000001000110
        same("one byte more", x.byteAt(2), 70);
        same("no byte 3", x.byteAt(3), -1);
        Run y = new Run(1, 1);
        y.slices(4, 4, false);
        y.encode();
        same("the last of all", y.byteAt(2047), 0);
        same("beyond", y.byteAt(2048), -1);
    }

    private static void promise13Refused() {
        says("False when there is no stream, no such byte, or b is not 0 .. 255.");
        Run x = tight(100);
        no("no stream", x.poke(0, 7));
        x.encode();
        no("byte -1", x.poke(-1, 7));
        no("byte 2", x.poke(2, 7));
        no("-1", x.poke(0, -1));
        no("256", x.poke(0, 256));
        for (int far : FAR_OUT) {
            no("byte " + far, x.poke(far, 7));
            no("b " + far, x.poke(0, far));
        }
        bytes("as it was", x, 131, 44);
        yes("0", x.poke(0, 0));
        yes("255", x.poke(1, 255));
        bytes("poked", x, 0, 255);
        x.rate(2, 1);
        no("no stream after rate", x.poke(0, 7));
        x.encode();
        bytes("written anew", x, 131, 44);
    }

    private static void promise13ReadPictureStays() {
        says("or b is not 0 .. 255. (The read picture stays.)");
        Run x = hundred();
        yes("poke", x.poke(0, 0));
        yes("poke", x.poke(1, 0));
        same("decoded", x.decoded(0, 0), 104);
        same("rebuilt", x.rebuilt(0, 0), 104);
        same("error", x.error(), 16);
        same("index", x.index(0), 0);
        same("used", x.used(0), 0);
        same("nonzero", x.nonzero(0), 0);
    }

    private static void promise14NoSuchSlice() {
        says("The quantiser of slice s as READING finds it in the stream;"
            + " -1 when there is no stream or no such slice.");
        Run x = tight(100);
        same("no stream", x.index(0), -1);
        for (int across = 1; across <= 4; across++) {
            for (int down = 1; down <= 4; down++) {
                x.slices(across, down, false);
                same("no stream after slices", x.index(0), -1);
                x.encode();
                same("slice -1", x.index(-1), -1);
                same("the last", x.index(across * down - 1), 16);
                same("one more", x.index(across * down), -1);
            }
        }
        for (int far : FAR_OUT) {
            same("slice " + far, x.index(far), -1);
        }
        x.poke(30, 8 * 31);
        same("31", x.index(15), 31);
        x.poke(30, 7);
        same("0", x.index(15), 0);
    }

    private static void promise15NoSuchSlice() {
        says("-1 when there is no stream or no such slice");
        Run x = tight(100);
        same("no stream", x.used(0), -1);
        for (int across = 1; across <= 4; across++) {
            for (int down = 1; down <= 4; down++) {
                x.slices(across, down, false);
                same("no stream after slices", x.used(0), -1);
                x.encode();
                same("slice -1", x.used(-1), -1);
                same("the last", x.used(across * down - 1), 6);
                same("one more", x.used(across * down), -1);
            }
        }
        for (int far : FAR_OUT) {
            same("slice " + far, x.used(far), -1);
        }
    }

    private static void promise15NotMoreThanRoom() {
        says("The LENGTH of slice s as READING finds it (not more than ROOM)");
        // 5 / 2: slice 1 has 3 bytes, 2 .. 4, a LENGTH of 5 bits and a ROOM of 14; slice 0 has 4 bits and 7.
        Run x = row(0);
        x.slices(2, 1, false);
        x.rate(5, 2);
        x.encode();
        for (int length = 0; length <= 31; length++) {
            pokeBits(x, 2, "00000" + Reference.binary(length, 5) + "11111111111111");
            same("LENGTH " + length, x.used(1), Math.min(14, length));
            same("slice 0", x.used(0), 0);
        }
        for (int length = 0; length <= 15; length++) {
            pokeBits(x, 0, "11111" + Reference.binary(length, 4) + "1111111");
            same("LENGTH " + length, x.used(0), Math.min(7, length));
            same("slice 1", x.used(1), 14);
        }
    }

    private static void promise16NoSuchSlice() {
        says("How many of the numbers of slice s, as READING finds them, are not 0;"
            + " -1 when there is no stream or no such slice.");
        Run x = tight(100);
        same("no stream", x.nonzero(0), -1);
        for (int across = 1; across <= 4; across++) {
            for (int down = 1; down <= 4; down++) {
                x.slices(across, down, true);
                same("no stream after slices", x.nonzero(0), -1);
                x.encode();
                same("slice -1", x.nonzero(-1), -1);
                same("the last", x.nonzero(across * down - 1), 1);
                same("one more", x.nonzero(across * down), -1);
            }
        }
        for (int far : FAR_OUT) {
            same("slice " + far, x.nonzero(far), -1);
        }
        // All of the numbers, and none; and numbers, not rebuilt coefficients: 1 - 1 is 0 with prediction.
        Run y = new Run(16, 16);
        y.filter(3, 0, 0);
        y.slices(2, 1, true);
        y.encode();
        same("none", y.nonzero(0), 0);
        y.paint(0, 0, 16, 16, 1);
        y.encode();
        same("only the first", y.nonzero(0), 1);
        same("none in the other slice", y.nonzero(1), 0);
        y.slices(2, 1, false);
        y.encode();
        same("all", y.nonzero(0), 128);
        same("all", y.nonzero(1), 128);
    }

    // ---- 17 to 20: the read picture

    private static void promise17NoStream() {
        says("Answers how many of its samples are not what the picture's are now; -1 when there is no stream.");
        Run x = new Run(1, 1);
        same("no stream", x.decode(), -1);
        noReadPicture("no stream", x);
        x.encode();
        same("none", x.decode(), 0);
        x.slices(1, 1, false);
        same("no stream after slices", x.decode(), -1);
        noReadPicture("no stream after slices", x);
    }

    private static void promise17AsThePictureIsNow() {
        says("Answers how many of its samples are not what the picture's are now");
        Run x = new Run(16, 16);
        x.filter(3, 0, 0);
        x.encode();
        same("none", x.decode(), 0);
        x.paint(15, 15, 1, 1, 1);
        same("one", x.decode(), 1);
        x.paint(0, 0, 16, 16, -1);
        same("all", x.decode(), 256);
        x.paint(0, 0, 16, 16, 0);
        same("none again", x.decode(), 0);
    }

    private static void promise18NoSuchSample() {
        says("The sample of the read picture at (x, y); NONE when there is no read picture,"
            + " or it is no place of the picture.");
        Run x = new Run(3, 2);
        x.paint(0, 0, 3, 2, 8);
        same("no read picture", x.decoded(0, 0), NONE);
        x.encode();
        same("not read", x.decoded(0, 0), NONE);
        x.decode();
        for (int j = -2; j <= 3; j++) {
            for (int i = -2; i <= 4; i++) {
                same("at " + i + " " + j, x.decoded(i, j), i >= 0 && i < 3 && j >= 0 && j < 2 ? 8 : NONE);
            }
        }
        for (int far : FAR_OUT) {
            same("column " + far, x.decoded(far, 0), NONE);
            same("row " + far, x.decoded(0, far), NONE);
        }
        x.ease(0, 0);
        same("no read picture after ease", x.decoded(0, 0), NONE);
        x.encode();
        same("nor after encode", x.decoded(0, 0), NONE);
    }

    private static void promise19NoSuchCoefficient() {
        says("The rebuilt coefficient at (x, y) from which the read picture was made;"
            + " 0 when there is no read picture, or no coefficient there.");
        Run x = new Run(5, 3);
        x.filter(3, 1, 0);
        x.encode();
        same("no read picture", x.rebuilt(0, 0), 0);
        // 6 columns and 4 rows, all of them 1.
        pokeSlice(x, 128, 0, numbers(1).repeat(24));
        same("no read picture", x.rebuilt(0, 0), 0);
        x.decode();
        for (int j = -2; j <= 6; j++) {
            for (int i = -2; i <= 8; i++) {
                same("at " + i + " " + j, x.rebuilt(i, j), i >= 0 && i < 6 && j >= 0 && j < 4 ? 1 : 0);
            }
        }
        for (int far : FAR_OUT) {
            same("column " + far, x.rebuilt(far, 0), 0);
            same("row " + far, x.rebuilt(0, far), 0);
        }
        x.encode();
        x.paint(0, 0, 1, 1, 99);
        same("from which the read picture was made", x.rebuilt(5, 3), 1);
        x.rate(128, 1);
        same("no read picture after rate", x.rebuilt(0, 0), 0);
        x.encode();
        same("nor after encode", x.rebuilt(0, 0), 0);
    }

    private static void promise20NoReadPicture() {
        says("between the read picture's sample and the picture's sample now; -1 when there is no read picture");
        Run x = new Run(2, 1);
        same("no read picture", x.error(), -1);
        same("decode", x.decode(), -1);
        same("no read picture", x.error(), -1);
        x.encode();
        same("not read", x.error(), -1);
        x.decode();
        same("none", x.error(), 0);
        x.filter(0, 1, 0);
        same("no read picture after filter", x.error(), -1);
        x.encode();
        same("nor after encode", x.error(), -1);
    }

    private static void promise20LeastAndMost() {
        says("The sum, over all places of the picture, of the square of the difference");
        Run x = new Run(16, 16);
        x.filter(3, 0, 0);
        x.slices(4, 4, false);
        x.paint(0, 0, 16, 16, 127);
        x.encode();
        x.decode();
        same("the least", x.error(), 0);
        x.paint(15, 15, 1, 1, 126);
        same("1", x.error(), 1);
        x.paint(0, 0, 16, 16, -128);
        same("the most", x.error(), 256 * 255 * 255);
        x.paint(0, 0, 16, 16, 127);
        x.paint(0, 15, 1, 1, -128);
        same("one place", x.error(), 255 * 255);
        // Each place against its own: 0 .. 8 read, and then 8 .. 0, so 8, 6, 4, 2 twice.
        Run y = painted(3, 3, 0, 1, 2, 3, 4, 5, 6, 7, 8);
        y.encode();
        y.decode();
        same("each is its own", y.error(), 0);
        for (int i = 0; i < 9; i++) {
            y.paint(i % 3, i / 3, 1, 1, 8 - i);
        }
        same("places", y.error(), 2 * (64 + 36 + 16 + 4));
        same("decode", y.decode(), 8);
    }
}
