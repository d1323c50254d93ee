import java.util.Arrays;

/**
 * A coder for small grey pictures: lifting steps, bands, slices, and for each slice the finest quantiser at which it
 * fits into its bytes. The words are those of the document, ../shared/DOC.md.
 */
public final class WaveletSlices {
    public static final int NONE = -1000;

    private static final int LOWEST = -128;
    private static final int HIGHEST = 127;

    /** The most columns and rows, of the picture and of its coefficients: (x, y) is held at y * SIDE + x. */
    private static final int SIDE = 16;
    private static final int PLACES = SIDE * SIDE;
    private static final int MOST_BANDS = 8;
    private static final int MOST_SLICES = 16;
    private static final int MOST_SLICE_BYTES = 128;
    private static final int COARSEST = 31;

    private final int width;
    private final int height;
    private final int[] picture = new int[PLACES];
    private final Setup setup = new Setup();
    private final Layout layout = new Layout();
    private final Transform transform = new Transform();
    private final SliceCoder coder = new SliceCoder(setup, layout);
    private final long[] work = new long[PLACES];

    /** What reading gives while the stream is written; apart from the read picture's own, which stays then. */
    private final long[] written = new long[PLACES];

    private boolean streamThere = false;
    private boolean readThere = false;
    private final long[] readCoefficients = new long[PLACES];
    private final int[] readPicture = new int[PLACES];

    public WaveletSlices(int width, int height) {
        this.width = Math.max(1, Math.min(SIDE, width));
        this.height = Math.max(1, Math.min(SIDE, height));
        layout.placeBands(setup, this.width, this.height);
        layout.cutSlices(setup);
    }

    public boolean paint(int x, int y, int w, int h, int v) {
        if (!inPicture(x, y) || !within(w, 1, SIDE) || !within(h, 1, SIDE) || !within(v, LOWEST, HIGHEST)) {
            return false;
        }
        int right = Math.min(width, x + w);
        int bottom = Math.min(height, y + h);
        for (int row = y; row < bottom; row++) {
            for (int column = x; column < right; column++) {
                picture[row * SIDE + column] = v;
            }
        }
        return true;
    }

    public boolean slope(int across, int down) {
        if (!within(across, -32, 32) || !within(down, -32, 32)) {
            return false;
        }
        for (int y = 0; y < height; y++) {
            for (int x = 0; x < width; x++) {
                int place = y * SIDE + x;
                picture[place] = (int) asSample(picture[place] + across * x + down * y);
            }
        }
        return true;
    }

    public int sample(int x, int y) {
        return inPicture(x, y) ? picture[y * SIDE + x] : NONE;
    }

    public boolean filter(int kind, int both, int wide) {
        if (!within(kind, 0, 6) || !within(both, 0, 2) || !within(wide, 0, 2) || both + wide > 3) {
            return false;
        }
        setup.kind = kind;
        setup.levelsBoth = both;
        setup.levelsWide = wide;
        Arrays.fill(setup.eases, 0);
        layout.placeBands(setup, width, height);
        layout.cutSlices(setup);
        forget();
        return true;
    }

    public boolean slices(int across, int down, boolean predict) {
        if (!within(across, 1, 4) || !within(down, 1, 4)) {
            return false;
        }
        setup.across = across;
        setup.down = down;
        setup.predicts = predict;
        layout.cutSlices(setup);
        forget();
        return true;
    }

    public boolean ease(int band, int m) {
        if (!within(band, 0, setup.bandCount() - 1) || !within(m, 0, 15)) {
            return false;
        }
        setup.eases[band] = m;
        forget();
        return true;
    }

    public boolean rate(int num, int den) {
        if (!within(den, 1, 64) || !within(num, 2 * den, 128 * den)) {
            return false;
        }
        setup.num = num;
        setup.den = den;
        forget();
        return true;
    }

    public int bands() {
        return setup.bandCount();
    }

    public long coefficient(int x, int y) {
        if (!layout.has(x, y)) {
            return 0;
        }
        findCoefficients();
        return work[y * SIDE + x];
    }

    public int encode() {
        findCoefficients();
        coder.clear();
        for (int s = 0; s < setup.sliceCount(); s++) {
            coder.writeSlice(s, work, written);
        }
        streamThere = true;
        return streamSize();
    }

    public int byteAt(int k) {
        return hasByte(k) ? coder.stream[k] : -1;
    }

    public boolean poke(int k, int b) {
        if (!hasByte(k) || !within(b, 0, 255)) {
            return false;
        }
        coder.stream[k] = b;
        return true;
    }

    public int index(int s) {
        return hasSlice(s) ? coder.readQuantiser(s) : -1;
    }

    public int used(int s) {
        return hasSlice(s) ? coder.readLength(s) : -1;
    }

    public int nonzero(int s) {
        return hasSlice(s) ? coder.countNonzero(s) : -1;
    }

    public int decode() {
        if (!streamThere) {
            return -1;
        }
        for (int s = 0; s < setup.sliceCount(); s++) {
            coder.readSlice(s, readCoefficients);
        }
        makeReadPicture();
        readThere = true;
        return countChanged();
    }

    public int decoded(int x, int y) {
        return readThere && inPicture(x, y) ? readPicture[y * SIDE + x] : NONE;
    }

    public long rebuilt(int x, int y) {
        return readThere && layout.has(x, y) ? readCoefficients[y * SIDE + x] : 0;
    }

    public int error() {
        if (!readThere) {
            return -1;
        }
        int sum = 0;
        for (int y = 0; y < height; y++) {
            for (int x = 0; x < width; x++) {
                int difference = readPicture[y * SIDE + x] - picture[y * SIDE + x];
                sum += difference * difference;
            }
        }
        return sum;
    }

    private static boolean within(int v, int least, int most) {
        return v >= least && v <= most;
    }

    private static long asSample(long v) {
        return Math.max(LOWEST, Math.min(HIGHEST, v));
    }

    private boolean inPicture(int x, int y) {
        return within(x, 0, width - 1) && within(y, 0, height - 1);
    }

    private int streamSize() {
        return setup.firstByte(setup.sliceCount());
    }

    private boolean hasByte(int k) {
        return streamThere && within(k, 0, streamSize() - 1);
    }

    private boolean hasSlice(int s) {
        return streamThere && within(s, 0, setup.sliceCount() - 1);
    }

    private void forget() {
        streamThere = false;
        readThere = false;
    }

    private void findCoefficients() {
        for (int y = 0; y < layout.rows; y++) {
            for (int x = 0; x < layout.columns; x++) {
                work[y * SIDE + x] = picture[Math.min(y, height - 1) * SIDE + Math.min(x, width - 1)];
            }
        }
        transform.toCoefficients(work, setup, layout);
    }

    private void makeReadPicture() {
        System.arraycopy(readCoefficients, 0, work, 0, PLACES);
        transform.toPicture(work, setup, layout);
        for (int y = 0; y < height; y++) {
            for (int x = 0; x < width; x++) {
                readPicture[y * SIDE + x] = (int) asSample(work[y * SIDE + x]);
            }
        }
    }

    private int countChanged() {
        int changed = 0;
        for (int y = 0; y < height; y++) {
            for (int x = 0; x < width; x++) {
                if (readPicture[y * SIDE + x] != picture[y * SIDE + x]) {
                    changed++;
                }
            }
        }
        return changed;
    }

    private static final class Setup {
        int kind = 0;
        int levelsBoth = 1;
        int levelsWide = 0;
        int across = 1;
        int down = 1;
        boolean predicts = false;
        final int[] eases = new int[MOST_BANDS];
        int num = 128;
        int den = 1;

        int levels() {
            return levelsBoth + levelsWide;
        }

        int bandCount() {
            return 1 + levelsWide + 3 * levelsBoth;
        }

        int sliceCount() {
            return across * down;
        }

        /** Where slice s begins in the stream; for the number of slices, where the stream ends. */
        int firstByte(int s) {
            return s * num / den;
        }
    }

    /** Where the bands lie, and which coefficients each slice has, in their order. */
    private static final class Layout {
        int columns = 0;
        int rows = 0;
        private int bandCount = 0;
        private final int[] left = new int[MOST_BANDS];
        private final int[] top = new int[MOST_BANDS];
        private final int[] wide = new int[MOST_BANDS];
        private final int[] high = new int[MOST_BANDS];

        /** Slice s has the entries first[s] .. first[s + 1] - 1 of placeOf and bandOf. */
        final int[] first = new int[MOST_SLICES + 1];
        final int[] placeOf = new int[PLACES];
        final int[] bandOf = new int[PLACES];

        boolean has(int x, int y) {
            return within(x, 0, columns - 1) && within(y, 0, rows - 1);
        }

        void placeBands(Setup setup, int width, int height) {
            int levels = setup.levels();
            int both = setup.levelsBoth;
            columns = leastMultiple(width, 1 << levels);
            rows = leastMultiple(height, 1 << both);
            bandCount = 0;
            addBand(0, 0, columns >> levels, rows >> both);
            for (int level = levels - 1; level >= 0; level--) {
                int w = columns >> (level + 1);
                if (level >= both) {
                    addBand(w, 0, w, rows >> both);
                } else {
                    int h = rows >> (level + 1);
                    addBand(w, 0, w, h);
                    addBand(0, h, w, h);
                    addBand(w, h, w, h);
                }
            }
        }

        void cutSlices(Setup setup) {
            int count = 0;
            for (int s = 0; s < setup.sliceCount(); s++) {
                first[s] = count;
                for (int band = 0; band < bandCount; band++) {
                    count = addPart(setup, s, band, count);
                }
            }
            first[setup.sliceCount()] = count;
        }

        private static int leastMultiple(int v, int unit) {
            return (v + unit - 1) / unit * unit;
        }

        private void addBand(int x, int y, int w, int h) {
            left[bandCount] = x;
            top[bandCount] = y;
            wide[bandCount] = w;
            high[bandCount] = h;
            bandCount++;
        }

        private int addPart(Setup setup, int s, int band, int count) {
            int i = s % setup.across;
            int j = s / setup.across;
            int endX = wide[band] * (i + 1) / setup.across;
            int endY = high[band] * (j + 1) / setup.down;
            int next = count;
            for (int y = high[band] * j / setup.down; y < endY; y++) {
                for (int x = wide[band] * i / setup.across; x < endX; x++) {
                    placeOf[next] = (top[band] + y) * SIDE + left[band] + x;
                    bandOf[next] = band;
                    next++;
                }
            }
            return next;
        }
    }

    /** Splits a picture into coefficients by lifting steps, and joins them again. */
    private static final class Transform {
        private static final int[] GAIN = {1, 1, 1, 0, 1, 0, 1};
        private static final int[] FIRST_STEP = {0, 2, 4, 6, 6, 8, 10};
        private static final int[] STEP_COUNT = {2, 2, 2, 2, 2, 2, 4};

        private static final int TAPS = 8;
        private static final int STEP_SIZE = 4 + TAPS;

        /**
         * A line for each step: 1 when it changes O (0: E), 1 when it adds (-1: takes away), what is added before the
         * shift, the shift, and the weights of E[k - 3] .. E[k + 4], or of O[k - 4] .. O[k + 3] when it changes E.
         */
        private static final int[] STEPS = {
            1, -1, 1, 1, 0, 0, 0, 1, 1, 0, 0, 0,
            0, 1, 2, 2, 0, 0, 0, 1, 1, 0, 0, 0,

            1, -1, 8, 4, 0, 0, -1, 9, 9, -1, 0, 0,
            0, 1, 2, 2, 0, 0, 0, 1, 1, 0, 0, 0,

            1, -1, 8, 4, 0, 0, -1, 9, 9, -1, 0, 0,
            0, 1, 16, 5, 0, 0, -1, 9, 9, -1, 0, 0,

            1, -1, 0, 0, 0, 0, 0, 1, 0, 0, 0, 0,
            0, 1, 1, 1, 0, 0, 0, 0, 1, 0, 0, 0,

            0, 1, 128, 8, -8, 21, -46, 161, 161, -46, 21, -8,
            1, -1, 128, 8, -2, 10, -25, 81, 81, -25, 10, -2,

            1, -1, 2048, 12, 0, 0, 0, 6497, 6497, 0, 0, 0,
            0, -1, 2048, 12, 0, 0, 0, 217, 217, 0, 0, 0,
            1, 1, 2048, 12, 0, 0, 0, 3616, 3616, 0, 0, 0,
            0, 1, 2048, 12, 0, 0, 0, 1817, 1817, 0, 0, 0,
        };

        private final long[] evens = new long[SIDE / 2];
        private final long[] odds = new long[SIDE / 2];

        void toCoefficients(long[] a, Setup setup, Layout layout) {
            for (int level = 0; level < setup.levels(); level++) {
                int w = layout.columns >> level;
                int h = layout.rows >> Math.min(level, setup.levelsBoth);
                raise(a, w, h, GAIN[setup.kind]);
                for (int y = 0; y < h; y++) {
                    splitLine(a, y * SIDE, 1, w / 2, setup.kind);
                }
                if (level < setup.levelsBoth) {
                    for (int x = 0; x < w; x++) {
                        splitLine(a, x, SIDE, h / 2, setup.kind);
                    }
                }
            }
        }

        void toPicture(long[] a, Setup setup, Layout layout) {
            for (int level = setup.levels() - 1; level >= 0; level--) {
                int w = layout.columns >> level;
                int h = layout.rows >> Math.min(level, setup.levelsBoth);
                if (level < setup.levelsBoth) {
                    for (int x = 0; x < w; x++) {
                        joinLine(a, x, SIDE, h / 2, setup.kind);
                    }
                }
                for (int y = 0; y < h; y++) {
                    joinLine(a, y * SIDE, 1, w / 2, setup.kind);
                }
                lower(a, w, h, GAIN[setup.kind]);
            }
        }

        private static void raise(long[] a, int w, int h, int gain) {
            for (int y = 0; y < h; y++) {
                for (int x = 0; x < w; x++) {
                    a[y * SIDE + x] <<= gain;
                }
            }
        }

        private static void lower(long[] a, int w, int h, int gain) {
            for (int y = 0; y < h; y++) {
                for (int x = 0; x < w; x++) {
                    a[y * SIDE + x] = (a[y * SIDE + x] + gain) >> gain;
                }
            }
        }

        private void splitLine(long[] a, int start, int stride, int n, int kind) {
            for (int k = 0; k < n; k++) {
                evens[k] = a[start + 2 * k * stride];
                odds[k] = a[start + (2 * k + 1) * stride];
            }
            for (int i = 0; i < STEP_COUNT[kind]; i++) {
                lift(FIRST_STEP[kind] + i, 1, n);
            }
            for (int k = 0; k < n; k++) {
                a[start + k * stride] = evens[k];
                a[start + (n + k) * stride] = odds[k];
            }
        }

        private void joinLine(long[] a, int start, int stride, int n, int kind) {
            for (int k = 0; k < n; k++) {
                evens[k] = a[start + k * stride];
                odds[k] = a[start + (n + k) * stride];
            }
            for (int i = STEP_COUNT[kind] - 1; i >= 0; i--) {
                lift(FIRST_STEP[kind] + i, -1, n);
            }
            for (int k = 0; k < n; k++) {
                a[start + 2 * k * stride] = evens[k];
                a[start + (2 * k + 1) * stride] = odds[k];
            }
        }

        private void lift(int step, int direction, int n) {
            int at = step * STEP_SIZE;
            boolean changesOdds = STEPS[at] == 1;
            long[] target = changesOdds ? odds : evens;
            long[] source = changesOdds ? evens : odds;
            int sign = STEPS[at + 1] * direction;
            int reach = changesOdds ? 3 : 4;
            for (int k = 0; k < n; k++) {
                long sum = STEPS[at + 2] + weigh(source, k - reach, at + 4, n);
                target[k] += sign * (sum >> STEPS[at + 3]);
            }
        }

        private static long weigh(long[] source, int from, int weights, int n) {
            long sum = 0;
            for (int t = 0; t < TAPS; t++) {
                long weight = STEPS[weights + t];
                if (weight != 0) {
                    sum += weight * source[Math.max(0, Math.min(n - 1, from + t))];
                }
            }
            return sum;
        }
    }

    /** Turns coefficients into numbers and back; r is a quantiser less the ease of a band. */
    private static final class Quantiser {
        private static final long MOST = 134217726;

        private final int[] factor = new int[COARSEST + 1];
        private final int[] offset = new int[COARSEST + 1];

        Quantiser() {
            for (int r = 0; r <= COARSEST; r++) {
                factor[r] = factorOf(r);
                offset[r] = r < 2 ? r + 1 : (factor[r] + 1) >> 1;
            }
        }

        int numberOf(long c, int r) {
            int v = (int) Math.min(MOST, 4 * Math.abs(c) / factor[r]);
            return c < 0 ? -v : v;
        }

        long valueOf(int v, int r) {
            if (v == 0) {
                return 0;
            }
            long value = ((long) Math.abs(v) * factor[r] + offset[r] + 2) >> 2;
            return v < 0 ? -value : value;
        }

        private static int factorOf(int r) {
            int b = 1 << (r >> 2);
            switch (r % 4) {
                case 0:
                    return 4 * b;
                case 1:
                    return (503829 * b + 52958) / 105917;
                case 2:
                    return (665857 * b + 58854) / 117708;
                default:
                    return (440253 * b + 32722) / 65444;
            }
        }
    }

    /** A stretch of bits in the stream that is written or read from its first one on. */
    private static final class Bits {
        private static final int MOST_DIGITS = 26;

        private final int[] bytes;
        private int at = 0;
        private int end = 0;

        Bits(int[] bytes) {
            this.bytes = bytes;
        }

        void open(int from, int count) {
            at = from;
            end = from + count;
        }

        /** A bit beyond the stretch is dropped: a block holds only the first bits of its numbers. */
        void put(int bit) {
            if (at < end) {
                bytes[at >> 3] |= bit << (7 - (at & 7));
                at++;
            }
        }

        /** A bit beyond the stretch is a 1, as reading asks. */
        int take() {
            if (at >= end) {
                return 1;
            }
            int bit = (bytes[at >> 3] >> (7 - (at & 7))) & 1;
            at++;
            return bit;
        }

        void putField(int v, int digits) {
            for (int i = digits - 1; i >= 0; i--) {
                put((v >> i) & 1);
            }
        }

        int takeField(int digits) {
            int v = 0;
            for (int i = 0; i < digits; i++) {
                v = 2 * v + take();
            }
            return v;
        }

        void putNumber(int v) {
            int n = Math.abs(v) + 1;
            int k = digitsAfterFirst(n);
            for (int i = k - 1; i >= 0; i--) {
                put(0);
                put((n >> i) & 1);
            }
            if (k < MOST_DIGITS) {
                put(1);
            }
            if (v != 0) {
                put(v < 0 ? 1 : 0);
            }
        }

        int takeNumber() {
            int n = 1;
            for (int i = 0; i < MOST_DIGITS; i++) {
                if (take() == 1) {
                    break;
                }
                n = 2 * n + take();
            }
            if (n == 1) {
                return 0;
            }
            return take() == 1 ? 1 - n : n - 1;
        }

        static int sizeOf(int v) {
            int k = digitsAfterFirst(Math.abs(v) + 1);
            return 2 * k + (k < MOST_DIGITS ? 1 : 0) + (v != 0 ? 1 : 0);
        }

        /** How many of the bits of v there are up to the last 0 among them; 0 when there is no 0. */
        static int sizeToLastZero(int v) {
            if (v >= 0) {
                return v == 0 ? 0 : sizeOf(v);
            }
            int n = 1 - v;
            int k = digitsAfterFirst(n);
            return (n & 1) == 0 ? 2 * k : 2 * k - 1;
        }

        private static int digitsAfterFirst(int n) {
            return 31 - Integer.numberOfLeadingZeros(n);
        }
    }

    /** Writes slices into the stream and reads them from it. */
    private static final class SliceCoder {
        private static final int QUANTISER_DIGITS = 5;
        private static final long FARTHEST = 1L << 27;

        final int[] stream = new int[MOST_SLICES * MOST_SLICE_BYTES];
        private final Setup setup;
        private final Layout layout;
        private final Quantiser quantiser = new Quantiser();
        private final Bits bits = new Bits(stream);
        private final int[] numbers = new int[PLACES];

        /** The slice at work: its coefficients, its first bit in the stream, the digits of its LENGTH, its ROOM. */
        private int from = 0;
        private int to = 0;
        private int firstBit = 0;
        private int lengthDigits = 0;
        private int room = 0;

        SliceCoder(Setup setup, Layout layout) {
            this.setup = setup;
            this.layout = layout;
        }

        void clear() {
            Arrays.fill(stream, 0);
        }

        int readQuantiser(int s) {
            openSlice(s);
            bits.open(firstBit, QUANTISER_DIGITS);
            return bits.takeField(QUANTISER_DIGITS);
        }

        int readLength(int s) {
            openSlice(s);
            bits.open(firstBit + QUANTISER_DIGITS, lengthDigits);
            return Math.min(bits.takeField(lengthDigits), room);
        }

        int countNonzero(int s) {
            readNumbers(s);
            int count = 0;
            for (int i = from; i < to; i++) {
                if (numbers[i] != 0) {
                    count++;
                }
            }
            return count;
        }

        /** The slices before s must be in rebuiltRow already. */
        void readSlice(int s, long[] rebuiltRow) {
            int q = readQuantiser(s);
            readNumbers(s);
            for (int i = from; i < to; i++) {
                rebuildAt(i, q, predictionAt(i, rebuiltRow), rebuiltRow);
            }
        }

        /** The slices before s must be in rebuiltRow already, as reading gives them; the stream is all 0 from s on. */
        void writeSlice(int s, long[] coefficients, long[] rebuiltRow) {
            openSlice(s);
            int q = 0;
            int length = measure(q, coefficients, rebuiltRow);
            while (length > room && q < COARSEST) {
                q++;
                length = measure(q, coefficients, rebuiltRow);
            }
            writeBits(q, Math.min(length, room));
            // A slice that fits at no quantiser is cut off: the slices after it are predicted from what is left of it.
            readSlice(s, rebuiltRow);
        }

        private void openSlice(int s) {
            from = layout.first[s];
            to = layout.first[s + 1];
            firstBit = 8 * setup.firstByte(s);
            int afterQuantiser = 8 * setup.firstByte(s + 1) - firstBit - QUANTISER_DIGITS;
            lengthDigits = 32 - Integer.numberOfLeadingZeros(afterQuantiser);
            room = afterQuantiser - lengthDigits;
        }

        private void readNumbers(int s) {
            int length = readLength(s);
            bits.open(firstBit + QUANTISER_DIGITS + lengthDigits, length);
            for (int i = from; i < to; i++) {
                numbers[i] = bits.takeNumber();
            }
        }

        /**
         * Finds the numbers of the slice for q, and answers how many bits they have up to the last 0. It stops where
         * this is more than ROOM: more numbers can't make it less, and their bits have no place in the block.
         */
        private int measure(int q, long[] coefficients, long[] rebuiltRow) {
            int size = 0;
            int length = 0;
            for (int i = from; i < to && length <= room; i++) {
                long p = predictionAt(i, rebuiltRow);
                int v = quantiser.numberOf(coefficients[layout.placeOf[i]] - p, easedAt(i, q));
                numbers[i] = v;
                rebuildAt(i, q, p, rebuiltRow);
                int toLastZero = Bits.sizeToLastZero(v);
                if (toLastZero > 0) {
                    length = size + toLastZero;
                }
                size += Bits.sizeOf(v);
            }
            return length;
        }

        private void writeBits(int q, int length) {
            bits.open(firstBit, QUANTISER_DIGITS + lengthDigits + length);
            bits.putField(q, QUANTISER_DIGITS);
            bits.putField(length, lengthDigits);
            for (int i = from; i < to; i++) {
                bits.putNumber(numbers[i]);
            }
        }

        private int easedAt(int i, int q) {
            return Math.max(0, q - setup.eases[layout.bandOf[i]]);
        }

        private void rebuildAt(int i, int q, long p, long[] rebuiltRow) {
            long c = p + quantiser.valueOf(numbers[i], easedAt(i, q));
            rebuiltRow[layout.placeOf[i]] = Math.max(-FARTHEST, Math.min(FARTHEST, c));
        }

        private long predictionAt(int i, long[] rebuiltRow) {
            if (!setup.predicts || layout.bandOf[i] != 0) {
                return 0;
            }
            int place = layout.placeOf[i];
            boolean inFirstColumn = place % SIDE == 0;
            boolean inFirstRow = place < SIDE;
            if (inFirstColumn) {
                return inFirstRow ? 0 : rebuiltRow[place - SIDE];
            }
            if (inFirstRow) {
                return rebuiltRow[place - 1];
            }
            long sum = rebuiltRow[place - 1] + rebuiltRow[place - SIDE] + rebuiltRow[place - SIDE - 1];
            return Math.floorDiv(sum + 1, 3L);
        }
    }
}
