import java.util.Arrays;

/** The sentences under "Terms" up to BANDS that name a boundary case, each with a test of its own. */
public final class PictureTermsTest extends Scenes {
    /** What each filter makes of one 100 among four numbers, the 100 at 0, 1, 2 and 3: two E, two O. */
    private static final int[][][] HUNDRED_OF_FOUR = {
        {{150, -25, -100, 0}, {100, 50, 200, 0}, {-50, 125, -100, -200}, {0, 50, 0, 200}},
        {{150, -22, -100, 12}, {100, 50, 200, 0}, {-50, 122, -100, -213}, {0, 50, 0, 200}},
        {{147, -22, -100, 12}, {106, 50, 200, 0}, {-46, 122, -100, -213}, {-6, 50, 0, 200}},
        {{50, 0, -100, 0}, {50, 0, 100, 0}, {0, 50, 0, -100}, {0, 50, 0, 100}},
        {{100, 0, -200, 0}, {100, 0, 200, 0}, {0, 100, 0, -200}, {0, 100, 0, 200}},
        {{100, 0, -25, 7}, {113, 50, 59, -21}, {0, 100, -25, -57}, {-13, 50, -9, 71}},
        {{150, -12, -95, 30}, {132, 57, 172, -19}, {-25, 135, -66, -193}, {-9, 65, -10, 181}},
    };
    private static final int[][][] MINUS_99_OF_FOUR = {
        {{-148, 25, 99, 0}, {-99, -49, -198, 0}, {50, -124, 99, 198}, {0, -49, 0, -198}},
        {{-148, 22, 99, -12}, {-99, -49, -198, 0}, {50, -121, 99, 210}, {0, -49, 0, -198}},
        {{-145, 22, 99, -12}, {-105, -49, -198, 0}, {46, -121, 99, 210}, {6, -49, 0, -198}},
        {{-49, 0, 99, 0}, {-49, 0, -99, 0}, {0, -49, 0, 99}, {0, -49, 0, -99}},
        {{-99, 0, 198, 0}, {-99, 0, -198, 0}, {0, -99, 0, 198}, {0, -99, 0, -198}},
        {{-99, 0, 25, -7}, {-112, -49, -59, 20}, {0, -99, 25, 56}, {13, -49, 9, -70}},
        {{-147, 12, 95, -30}, {-131, -58, -171, 18}, {26, -134, 66, 190}, {8, -66, 9, -180}},
    };

    /** The same of 16 numbers: filter, where the 100 stands, and then eight E and eight O. */
    private static final int[][] HUNDRED_OF_SIXTEEN = {
        {0, 0, 150, -25, 0, 0, 0, 0, 0, 0, -100, 0, 0, 0, 0, 0, 0, 0},
        {0, 1, 100, 50, 0, 0, 0, 0, 0, 0, 200, 0, 0, 0, 0, 0, 0, 0},
        {0, 14, 0, 0, 0, 0, 0, 0, -25, 125, 0, 0, 0, 0, 0, 0, -100, -200},
        {0, 15, 0, 0, 0, 0, 0, 0, 0, 50, 0, 0, 0, 0, 0, 0, 0, 200},
        {1, 0, 150, -22, 3, 0, 0, 0, 0, 0, -100, 12, 0, 0, 0, 0, 0, 0},
        {1, 14, 0, 0, 0, 0, 0, 3, -22, 122, 0, 0, 0, 0, 0, 12, -100, -213},
        {2, 0, 147, -22, 7, 0, 0, 0, 0, 0, -100, 12, 0, 0, 0, 0, 0, 0},
        {2, 1, 106, 50, -6, 0, 0, 0, 0, 0, 200, 0, 0, 0, 0, 0, 0, 0},
        {2, 14, 0, 0, 0, 0, 0, 7, -18, 118, 0, 0, 0, 0, 0, 12, -100, -213},
        {2, 15, 0, 0, 0, 0, 0, 0, -6, 50, 0, 0, 0, 0, 0, 0, 0, 200},
        {5, 0, 100, 0, 0, 0, 0, 0, 0, 0, -25, 7, -3, 1, 0, 0, 0, 0},
        {5, 1, 113, 50, -13, 5, -3, 0, 0, 0, 54, -4, 4, -3, 2, -1, 0, 0},
        {5, 14, 0, 0, 0, 0, 0, 0, 0, 100, 0, 0, 0, 1, -3, 7, -25, -57},
        {5, 15, 0, 0, 0, 0, -3, 5, -13, 50, 0, 0, -1, 2, -3, 6, -8, 70},
        {6, 0, 150, -18, 7, 0, 0, 0, 0, 0, -95, 15, 0, 0, 0, 0, 0, 0},
        {6, 1, 132, 61, -4, 0, 0, 0, 0, 0, 172, -10, 0, 0, 0, 0, 0, 0},
        {6, 14, 0, 0, 0, 0, 0, 7, -12, 128, 0, 0, 0, 0, 0, 15, -81, -193},
        {6, 15, 0, 0, 0, 0, 0, 0, -4, 65, 0, 0, 0, 0, 0, 0, -10, 181},
    };

    public static void main(String[] args) {
        check = new Check("PictureTermsTest");
        theLastCallOfARun();
        samplesAtFirst();
        leastAndMostSample();
        shiftsRoundDown();
        shiftsWhereTheyRound();
        shiftsOfBigNumbers();
        quotientsRoundDown();
        numbersAreExact();
        sumsAreExact();
        setupAtFirst();
        neighboursBeforeTheFirst();
        neighboursAfterTheLast();
        listsOfTwo();
        joinsOfEveryLength();
        sizesAreTheLeastMultiples();
        nearestColumnAndRow();
        noLevelLeavesTheSamples();
        onceForEachLevel();
        onlyLevelsBothSplitColumns();
        halvesOnTheWayBack();
        samplesAreHeldOnTheWayBack();
        onlyPlacesOfThePictureAreKept();
        check.end();
    }

    private static void theLastCallOfARun() {
        says("An object is used for at most 512 calls after it has been made");
        Run x = hundred();
        while (x.callsLeft() > 6) {
            same("encode", x.encode(), 2);
        }
        yes("paint", x.paint(0, 0, 1, 1, -100));
        same("encode", x.encode(), 2);
        same("index", x.index(0), 7);
        same("decode", x.decode(), 1);
        same("decoded", x.decoded(0, 0), -99);
        same("the 512th call", x.error(), 1);
    }

    // ---- PICTURE, SETUP

    private static void samplesAtFirst() {
        says("WIDTH columns 0, 1, .. and HEIGHT rows 0, 1, .. of SAMPLES -128 .. 127, at first all 0");
        for (int w = 1; w <= 16; w++) {
            for (int h = 1; h <= 16; h++) {
                Run x = new Run(w, h);
                for (int j = -1; j <= h; j++) {
                    for (int i = -1; i <= w; i++) {
                        boolean there = i >= 0 && i < w && j >= 0 && j < h;
                        same(w + " by " + h + ": " + i + " " + j, x.sample(i, j), there ? 0 : NONE);
                    }
                }
            }
        }
    }

    private static void leastAndMostSample() {
        says("SAMPLES -128 .. 127");
        Run x = row(-128, 127);
        same("the least", x.sample(0, 0), -128);
        same("the most", x.sample(1, 0), 127);
        x.encode();
        same("decode", x.decode(), 0);
        same("the least, read", x.decoded(0, 0), -128);
        same("the most, read", x.decoded(1, 0), 127);
    }

    private static void shiftsRoundDown() {
        says("x >> n is x divided by 2^n and rounded down (-1 >> 1 is -1)");
        // O is 0 - 2, and (O + 1) >> 1 is -1 >> 1.
        Run x = row(2, 0);
        x.filter(3, 0, 1);
        coefficients("-1 >> 1", x, 1, -2);
        for (int kind = 0; kind <= 6; kind++) {
            for (int i = 0; i < 4; i++) {
                splitOne(kind, 4, i, -99, MINUS_99_OF_FOUR[kind][i]);
            }
        }
    }

    /** Pictures of which some sum of each step is just enough for the next number, or just not. */
    private static void shiftsWhereTheyRound() {
        says("Then the steps of the filter are done in order; each changes every E[k], or every O[k].");
        splitPicture(0, new int[] {8, -2, 3, -3, -8, 9, 0, 9, 9, 1, -8, 3, 8, -8, 6, 3},
            1, 7, 2, -5, 10, -3, 2, 18, -17, 16, 33, 13, -18, 13, -31, -28);
        splitPicture(1, new int[] {7, 7, 2, 5, 9, 4, 3, 3, -4, -7, -9, -7, 2, 0, -1, -6},
            23, 12, 2, 5, -2, -11, -2, 0, 11, 10, -6, -5, 14, 13, 0, -15);
        splitPicture(2, new int[] {-3, 1, -1, 1, 4, 0, -4, 1, 5, 5, 8, 3, -1, -9, 4, 0},
            0, -5, 5, 11, 5, 7, -8, -6, 5, -12, -2, 14, -23, -13, -17, 2);
        splitPicture(3, new int[] {1, -8, -5, 4, -3, 9, -4, -4, -6, -7, 0, 9, 1, 7, -4, -2},
            0, -2, 2, 5, -1, 1, 3, 6, 6, -4, 21, -9, 10, -8, 7, -7);
        splitPicture(4, new int[] {1, -9, -6, -9, -2, 3, 5, -7, -7, 0, 8, 9, 7, -1, 3, -4},
            -3, -8, -5, -15, 0, 8, -1, -6, 9, 13, 30, -18, 13, -18, -30, -16);
        splitPicture(5, new int[] {-8, 8, -7, -2, 3, 1, -8, -8, -1, -8, 2, -4, -9, -4, 2, 1},
            8, -17, 11, -1, -14, -9, -4, -2, 6, -5, 0, 0, -6, 5, 2, 1);
        splitPicture(6, new int[] {-82, 123, -107, 121, 111, 91, 117, -29, -2, -118, 64, -91, 46, 7, 75, 58},
            228, 128, 277, 144, -26, 68, -217, -287, 245, 154, -107, -315, 193, 151, 202, 314);
        splitPicture(6, new int[] {42, 77, -88, 108, -13, 50, 6, -50, 85, -18, -126, -33, 70, 34, -68, -44},
            138, 28, 171, 163, 151, -178, 16, 108, -96, 86, 25, -347, 43, 105, 74, -77);
        splitPicture(6, new int[] {121, 24, -50, 58, -121, 106, -66, 63, 80, -51, -80, 105, -23, 29, -97, -52},
            134, 9, 194, 243, 31, -91, 63, 321, -153, 71, 344, -81, 2, -63, 205, -272);
        Run x = row(100, 105, 99, 99, 103, 100, 101, 105, 105, 105, 103, 100, 105, 101, 101, 105);
        x.filter(5, 0, 1);
        same("filter 5", x.coefficient(6, 0), 204);
    }

    /** 4 by 4 samples, and their coefficients after one level BOTH. */
    private static void splitPicture(int kind, int[] samples, int... want) {
        Run x = painted(4, 4, samples);
        x.filter(kind, 1, 0);
        for (int i = 0; i < 16; i++) {
            same("filter " + kind + " at " + i % 4 + " " + i / 4, x.coefficient(i % 4, i / 4), want[i]);
        }
        x.encode();
        same("filter " + kind + " back again", x.decode(), 0);
    }

    /** The first step of filter 6 is at the edge only where numbers are as big as those of the third level. */
    private static void shiftsOfBigNumbers() {
        says("6 (g 1): O[k] -= (6497 * (E[k] + E[k + 1]) + 2048) >> 12");
        Run x = painted(8, 4,
            127, 127, 127, 127, 127, 127, 127, 127, 127, 127, 127, 77, 53, 63, 127, 127,
            82, 18, 80, 127, -1, 113, 49, 67, 45, 32, 81, 127, 46, 127, 114, 18);
        x.filter(6, 2, 1);
        same("at 0 0", x.coefficient(0, 0), 2208);
        same("at 1 0", x.coefficient(1, 0), -191);
        same("at 0 1", x.coefficient(0, 1), -401);
        x = painted(8, 4,
            -128, -95, -38, 14, -128, -128, 14, -124, -37, -100, -128, -122, -47, -128, 14, -128,
            -128, -128, -27, -2, -57, -128, -124, -128, -61, -128, -49, -128, -17, -63, -128, -128);
        x.filter(6, 2, 1);
        same("at 2 0", x.coefficient(2, 0), 104);
        same("at 0 1", x.coefficient(0, 1), -88);
        same("at 1 1", x.coefficient(1, 1), 32);
        same("at 0 2", x.coefficient(0, 2), 168);
        x = painted(8, 4,
            72, 83, -10, -36, 2, 127, 127, 74, -61, -21, 35, 127, 120, 98, 36, 121,
            85, 18, -62, 126, 127, 120, 91, 127, 46, -62, -26, 127, 55, -62, 127, 127);
        x.filter(6, 2, 1);
        same("at 0 0", x.coefficient(0, 0), 938);
    }

    /** One number v among others that are 0, at i, split by a filter. */
    private static void splitOne(int kind, int length, int i, int v, int[] want) {
        Run x = new Run(length, 1);
        x.paint(i, 0, 1, 1, v);
        x.filter(kind, 0, 1);
        coefficients("filter " + kind + ", " + v + " at " + i + " of " + length, x, want);
    }

    private static void quotientsRoundDown() {
        says("x / y is rounded down too (-1 / 3 is -1)");
        for (int sum = -12; sum <= 12; sum++) {
            // L is sum - 1, U and C are 0: the number at (0, 1) is L, the others are 0.
            Run x = new Run(2, 2);
            x.filter(3, 0, 0);
            x.slices(1, 1, true);
            x.encode();
            pokeSlice(x, 128, 0, numbers(0, 0, sum - 1, 0));
            x.decode();
            int third = sum >= 0 ? sum / 3 : -((2 - sum) / 3);
            same(sum + " / 3 in reading", x.rebuilt(1, 1), third);
            Run y = new Run(2, 2);
            y.filter(3, 0, 0);
            y.slices(1, 1, true);
            y.paint(0, 1, 1, 1, sum - 1);
            y.paint(1, 1, 1, 1, third + 1);
            y.encode();
            String due = toLastZero(numbers(0, 0, sum - 1, 1));
            bits(sum + " / 3 in writing", y, 0, head(128, 0, due.length()) + due);
        }
    }

    /** Beyond the picture the numbers may be anything: what is in the picture must come out exactly all the same. */
    private static void numbersAreExact() {
        says("numbers are exact (none gets beyond 2^62)");
        for (int kind = 0; kind <= 6; kind++) {
            for (int[] level : LEVELS) {
                Reference y = new Reference(1, 1);
                y.filter(kind, level[0], level[1]);
                y.slices(2, 2, false);
                Run x = new Run(1, 1);
                x.filter(kind, level[0], level[1]);
                x.slices(2, 2, false);
                x.encode();
                pokeCoefficients(x, y, biggestAround(y, 77));
                x.decode();
                same("filter " + kind + " of big numbers", x.decoded(0, 0), 77);
            }
        }
    }

    /** With all coefficients as far off as they can be, the sums of the joins go beyond 2^31 on the way back. */
    private static void sumsAreExact() {
        says("numbers are exact (none gets beyond 2^62)");
        for (int kind = 0; kind <= 6; kind++) {
            for (int[] level : LEVELS) {
                for (int target = 0; target < 32; target += 5) {
                    Reference y = new Reference(8, 4);
                    y.filter(kind, level[0], level[1]);
                    y.slices(2, 2, false);
                    long[][] c = adding(y, target);
                    decodesTo("filter " + kind + ", most at " + target, y, c);
                }
            }
        }
    }

    /** Coefficients 2^27 - 2 or minus that, with signs by which all of them add to what comes out at one place. */
    private static long[][] adding(Reference y, int target) {
        long[][] out = new long[4][8];
        for (int i = 0; i < 32; i++) {
            long[][] one = new long[4][8];
            one[i / 8][i % 8] = 1 << 20;
            boolean minus = y.joined(one)[target / 8][target % 8] < 0;
            out[i / 8][i % 8] = minus ? -134217726 : 134217726;
        }
        return out;
    }

    private static void decodesTo(String what, Reference y, long[][] c) {
        Run x = new Run(8, 4);
        x.filter(y.kind, y.d, y.e);
        x.slices(y.across, y.down, false);
        x.encode();
        pokeCoefficients(x, y, c);
        x.decode();
        int[][] due = y.backToPicture(c);
        for (int i = 0; i < 32; i++) {
            same(what + " at " + i % 8 + " " + i / 8, x.decoded(i % 8, i / 8), due[i / 8][i % 8]);
        }
    }

    /** The coefficients of v at (0, 0) among numbers as big as can be written without a quantiser. */
    private static long[][] biggestAround(Reference y, int v) {
        for (long big = 1L << 27; big > 1000; big /= 2) {
            long[][] a = new long[y.rows()][y.columns()];
            for (int j = 0; j < y.rows(); j++) {
                for (int i = 0; i < y.columns(); i++) {
                    a[j][i] = (i + j) * (i + 2 * j) % 3 == 0 ? big : -big;
                }
            }
            a[0][0] = v;
            long[][] c = y.coefficientsOf(a);
            if (most(c) <= 134217726) {
                return c;
            }
        }
        throw new IllegalStateException();
    }

    private static long most(long[][] c) {
        long most = 0;
        for (long[] line : c) {
            for (long v : line) {
                most = Math.max(most, Math.abs(v));
            }
        }
        return most;
    }

    private static void pokeCoefficients(Run x, Reference y, long[][] c) {
        for (int s = 0; s < y.across * y.down; s++) {
            StringBuilder block = new StringBuilder();
            for (int[] place : y.order(s)) {
                block.append(numbers(c[place[1]][place[0]]));
            }
            pokeBits(x, 128 * s, head(128, 0, block.length()) + block);
        }
    }

    private static void setupAtFirst() {
        says("At first: filter 0, D = 1, E = 0, ACROSS = DOWN = 1, no prediction, each ease 0, NUM = 128, DEN = 1.");
        Run x = new Run(5, 3);
        Run y = new Run(5, 3);
        y.filter(0, 1, 0);
        y.slices(1, 1, false);
        for (int band = 0; band < 4; band++) {
            y.ease(band, 0);
        }
        y.rate(128, 1);
        x.slope(-31, 17);
        y.slope(-31, 17);
        same("encode", x.encode(), 128);
        y.encode();
        for (int k = 0; k <= 128; k++) {
            same("byteAt(" + k + ")", x.byteAt(k), y.byteAt(k));
        }
        same("one slice", x.index(1), -1);
        same("no ease, no prediction", x.decode(), 0);
        for (int i = 0; i < 6; i++) {
            same("coefficient", x.coefficient(i, i % 4), y.coefficient(i, i % 4));
        }
    }

    // ---- SPLIT, JOIN

    private static void neighboursBeforeTheFirst() {
        says("In a step E[k] with k < 0 means E[0], with k >= n it means E[n - 1]; O likewise.");
        for (int kind = 0; kind <= 6; kind++) {
            splitOne(kind, 4, 0, 100, HUNDRED_OF_FOUR[kind][0]);
            splitOne(kind, 4, 1, 100, HUNDRED_OF_FOUR[kind][1]);
        }
        for (int[] one : HUNDRED_OF_SIXTEEN) {
            if (one[1] < 8) {
                splitOne(one[0], 16, one[1], 100, Arrays.copyOfRange(one, 2, 18));
            }
        }
        // Columns are split as rows are: filters 0 to 4 leave a column of its own as it is, times 2^g.
        for (int kind = 0; kind <= 4; kind++) {
            splitOneInColumn(kind, 0, HUNDRED_OF_FOUR[kind][0]);
            splitOneInColumn(kind, 1, HUNDRED_OF_FOUR[kind][1]);
        }
    }

    private static void neighboursAfterTheLast() {
        says("with k >= n it means E[n - 1]; O likewise.");
        for (int kind = 0; kind <= 6; kind++) {
            splitOne(kind, 4, 2, 100, HUNDRED_OF_FOUR[kind][2]);
            splitOne(kind, 4, 3, 100, HUNDRED_OF_FOUR[kind][3]);
        }
        for (int[] one : HUNDRED_OF_SIXTEEN) {
            if (one[1] > 8) {
                splitOne(one[0], 16, one[1], 100, Arrays.copyOfRange(one, 2, 18));
            }
        }
        for (int kind = 0; kind <= 4; kind++) {
            splitOneInColumn(kind, 2, HUNDRED_OF_FOUR[kind][2]);
            splitOneInColumn(kind, 3, HUNDRED_OF_FOUR[kind][3]);
        }
    }

    private static void splitOneInColumn(int kind, int i, int[] want) {
        Run x = new Run(1, 4);
        x.paint(0, i, 1, 1, 100);
        x.filter(kind, 1, 0);
        for (int j = 0; j < 4; j++) {
            same("filter " + kind + " down, 100 at " + i, x.coefficient(0, j), want[j]);
            same("filter " + kind + " across, 100 at " + i, x.coefficient(1, j), 0);
        }
    }

    private static void listsOfTwo() {
        says("A list of 2n numbers a[0], a[1], .. gives n numbers E[k] = a[2k] and n numbers O[k] = a[2k + 1].");
        int[][] lists = {{10, 4}, {-1, 0}, {0, -1}, {-3, -2}};
        int[][][] due = {
            {{14, -12}, {-1, 2}, {-1, -2}, {-5, 2}},
            {{14, -12}, {-1, 2}, {-1, -2}, {-5, 2}},
            {{14, -12}, {-1, 2}, {-1, -2}, {-5, 2}},
            {{7, -6}, {0, 1}, {0, -1}, {-2, 1}},
            {{14, -12}, {-1, 2}, {-1, -2}, {-5, 2}},
            {{14, -3}, {-1, 0}, {-1, -1}, {-5, 0}},
            {{18, -9}, {-2, 1}, {-2, -2}, {-7, 1}},
        };
        for (int kind = 0; kind <= 6; kind++) {
            for (int i = 0; i < lists.length; i++) {
                Run x = row(lists[i]);
                x.filter(kind, 0, 1);
                coefficients("filter " + kind + " of two", x, due[kind][i]);
            }
        }
    }

    private static void joinsOfEveryLength() {
        says("JOIN takes a SPLIT back");
        for (int kind = 0; kind <= 6; kind++) {
            for (int length = 1; length <= 16; length++) {
                Run x = new Run(length, 1);
                Run y = new Run(1, length);
                for (int i = 0; i < length; i++) {
                    int v = i % 3 == 0 ? 127 - 11 * i : 7 * i - 128;
                    x.paint(i, 0, 1, 1, v);
                    y.paint(0, i, 1, 1, v);
                }
                x.filter(kind, 0, 1);
                x.encode();
                same("a row of " + length + ", filter " + kind, x.decode(), 0);
                y.filter(kind, 1, 0);
                y.slices(1, 4, false);
                y.encode();
                same("a column of " + length + ", filter " + kind, y.decode(), 0);
            }
        }
    }

    // ---- COEFFICIENTS

    private static void sizesAreTheLeastMultiples() {
        says("P is the least multiple of 2^(D + E) that is at least WIDTH,"
            + " Q the least multiple of 2^D that is at least HEIGHT.");
        for (int w = 1; w <= 16; w++) {
            for (int h = 1; h <= 16; h++) {
                for (int[] level : LEVELS) {
                    int p = leastMultiple(w, 1 << (level[0] + level[1]));
                    int q = leastMultiple(h, 1 << level[0]);
                    Run x = new Run(w, h);
                    x.filter(3, level[0], level[1]);
                    x.encode();
                    // Number 0 is one bit 1. The last coefficient in the order is the last of the last row.
                    pokeSlice(x, 128, 0, "1".repeat(p * q - 1) + numbers(1));
                    x.decode();
                    String what = w + " by " + h + " with " + level[0] + " and " + level[1] + " levels";
                    same(what + ": the last one", x.rebuilt(p - 1, q - 1), 1);
                    same(what + ": as many", x.nonzero(0), 1);
                    same(what + ": no column P", x.rebuilt(p, q - 1), 0);
                    same(what + ": no row Q", x.rebuilt(p - 1, q), 0);
                }
            }
        }
    }

    private static int leastMultiple(int size, int unit) {
        int multiple = unit;
        while (multiple < size) {
            multiple += unit;
        }
        return multiple;
    }

    private static void nearestColumnAndRow() {
        says("the number at (x, y) is the sample at the nearest column 0 .. WIDTH - 1 and row 0 .. HEIGHT - 1");
        // Rows 1 2 5 5, 4 8 6 6, 7 3 9 9, 7 3 9 9, split: 2 5 1 0, 6 6 4 0, 5 9 -4 0, 5 9 -4 0; then the columns.
        int[][] due = {{4, 6, 3, 0}, {5, 9, -4, 0}, {4, 1, 3, 0}, {0, 0, 0, 0}};
        Run x = painted(3, 3, 1, 2, 5, 4, 8, 6, 7, 3, 9);
        x.filter(3, 1, 0);
        for (int i = 0; i < 16; i++) {
            same("at " + i % 4 + " " + i / 4, x.coefficient(i % 4, i / 4), due[i / 4][i % 4]);
        }
        // One sample is all there is: 8 columns and 4 rows of it.
        Run y = new Run(1, 1);
        y.paint(0, 0, 1, 1, -128);
        y.filter(3, 2, 1);
        for (int i = 0; i < 32; i++) {
            same("one sample", y.coefficient(i % 8, i / 8), i == 0 ? -128 : 0);
        }
    }

    private static void noLevelLeavesTheSamples() {
        says("BOTH (0 .. 2) and E levels WIDE (0 .. 2)");
        for (int kind = 0; kind <= 6; kind++) {
            Run x = new Run(3, 2);
            x.paint(0, 0, 3, 2, -128);
            x.paint(2, 1, 1, 1, 127);
            x.filter(kind, 0, 0);
            for (int i = 0; i < 6; i++) {
                same("filter " + kind + ", no level", x.coefficient(i % 3, i / 3), i == 5 ? 127 : -128);
            }
            same("no column more", x.coefficient(3, 0), 0);
            same("no row more", x.coefficient(0, 2), 0);
            x.encode();
            same("back again", x.decode(), 0);
        }
    }

    private static void onceForEachLevel() {
        says("D times: every number of the region is multiplied by 2^g");
        says("Then E times: every number of the region is multiplied by 2^g");
        int[] gains = {1, 1, 1, 0, 1};
        for (int[] level : LEVELS) {
            Run x = new Run(16, 16);
            x.paint(0, 0, 16, 16, -3);
            for (int kind = 0; kind <= 4; kind++) {
                x.filter(kind, level[0], level[1]);
                same("filter " + kind, x.coefficient(0, 0), -3 << ((level[0] + level[1]) * gains[kind]));
                same("filter " + kind, x.coefficient(15, 15), level[0] + level[1] == 0 ? -3 : 0);
            }
            // Filter 5 has the gain 0, but each of its splits makes E twice as much.
            x.filter(5, level[0], level[1]);
            same("filter 5", x.coefficient(0, 0), -3 << (2 * level[0] + level[1]));
        }
    }

    private static void onlyLevelsBothSplitColumns() {
        says("its columns are joined (only at a level BOTH)");
        Run x = new Run(4, 4);
        x.paint(0, 2, 4, 2, 10);
        x.filter(3, 1, 1);
        same("above", x.coefficient(0, 0), 0);
        same("below", x.coefficient(0, 1), 10);
        x.encode();
        // Band 0 has two coefficients, one above the other, and this is the upper one.
        pokeSlice(x, 128, 0, numbers(6));
        x.decode();
        for (int i = 0; i < 16; i++) {
            same("back to a picture", x.decoded(i % 4, i / 4), i < 8 ? 6 : 0);
        }
    }

    // ---- BACK TO A PICTURE

    private static void halvesOnTheWayBack() {
        says("every number v of it becomes v when g is 0, (v + 1) >> 1 when g is 1");
        int[] gains = {1, 1, 1, 0, 1};
        for (int v = -13; v <= 13; v++) {
            for (int kind = 0; kind <= 4; kind++) {
                Run x = new Run(1, 1);
                x.filter(kind, 0, 1);
                x.encode();
                pokeSlice(x, 128, 0, numbers(v, 0));
                x.decode();
                same("filter " + kind + " of " + v, x.decoded(0, 0), gains[kind] == 0 ? v : Math.floorDiv(v + 1, 2));
                x.filter(kind, 2, 1);
                x.encode();
                pokeSlice(x, 128, 0, numbers(v));
                x.decode();
                int due = v;
                for (int i = 0; i < 3 * gains[kind]; i++) {
                    due = Math.floorDiv(due + 1, 2);
                }
                same("filter " + kind + " of " + v + ", three levels", x.decoded(0, 0), due);
            }
        }
    }

    private static void samplesAreHeldOnTheWayBack() {
        says("what is less than -128 becomes -128, more than 127 becomes 127");
        int[] numbers = {-129, -128, -127, 126, 127, 128, -134217726, 134217726};
        int[] due = {-128, -128, -127, 126, 127, 127, -128, 127};
        for (int i = 0; i < due.length; i++) {
            Run x = row(0);
            x.encode();
            pokeSlice(x, 128, 0, numbers(numbers[i]));
            x.decode();
            same("rebuilt", x.rebuilt(0, 0), numbers[i]);
            same("held", x.decoded(0, 0), due[i]);
        }
        // Held in the end alone: filter 3 makes 250 of 100 and -300, and then 250 - 300.
        Run y = row(0, 0);
        y.filter(3, 0, 1);
        y.encode();
        pokeSlice(y, 128, 0, numbers(100, -300));
        y.decode();
        same("100 - (-299 >> 1)", y.decoded(0, 0), 127);
        same("250 - 300", y.decoded(1, 0), -50);
    }

    private static void onlyPlacesOfThePictureAreKept() {
        says("In the end only the places of the picture are kept");
        Run x = new Run(1, 1);
        x.filter(3, 2, 1);
        x.encode();
        pokeSlice(x, 128, 0, "1".repeat(31) + numbers(100));
        same("what lies beyond does not count", x.decode(), 0);
        same("it is there", x.rebuilt(7, 3), 100);
        same("nor is it an error", x.error(), 0);
        same("the sample", x.decoded(0, 0), 0);
        same("no place of the picture", x.decoded(7, 3), NONE);
        same("no place of the picture", x.decoded(1, 0), NONE);
        same("no place of the picture", x.decoded(0, 1), NONE);
    }
}
