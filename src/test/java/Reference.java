import java.util.ArrayList;
import java.util.Arrays;
import java.util.List;

/**
 * The document once more, as literally as it can be written and without a thought for speed: bits are texts of '0' and
 * '1', lists are lists, and every sum and product fails loudly when it leaves a long.
 */
final class Reference {
    static final int NONE = -1000;
    static final long FAR = 1L << 27;

    final int width;
    final int height;
    final int[][] picture;
    int kind = 0;
    int d = 1;
    int e = 0;
    int across = 1;
    int down = 1;
    boolean predicts = false;
    int[] eases = new int[20];
    int num = 128;
    int den = 1;
    String stream = null;
    long[][] rebuilt = null;
    int[][] read = null;

    Reference(int width, int height) {
        this.width = width < 1 ? 1 : width > 16 ? 16 : width;
        this.height = height < 1 ? 1 : height > 16 ? 16 : height;
        this.picture = new int[this.height][this.width];
    }

    boolean paint(int x, int y, int w, int h, int v) {
        if (sample(x, y) == NONE || w < 1 || w > 16 || h < 1 || h > 16 || v < -128 || v > 127) {
            return false;
        }
        for (int j = 0; j < height; j++) {
            for (int i = 0; i < width; i++) {
                if (i >= x && i <= x + w - 1 && j >= y && j <= y + h - 1) {
                    picture[j][i] = v;
                }
            }
        }
        return true;
    }

    boolean slope(int a, int b) {
        if (a < -32 || a > 32 || b < -32 || b > 32) {
            return false;
        }
        for (int j = 0; j < height; j++) {
            for (int i = 0; i < width; i++) {
                picture[j][i] = (int) clamp(picture[j][i] + a * i + b * j, -128, 127);
            }
        }
        return true;
    }

    int sample(int x, int y) {
        return x >= 0 && x < width && y >= 0 && y < height ? picture[y][x] : NONE;
    }

    boolean filter(int k, int both, int wide) {
        if (k < 0 || k > 6 || both < 0 || both > 2 || wide < 0 || wide > 2 || both + wide > 3) {
            return false;
        }
        kind = k;
        d = both;
        e = wide;
        eases = new int[20];
        stream = null;
        read = null;
        return true;
    }

    boolean slices(int a, int b, boolean p) {
        if (a < 1 || a > 4 || b < 1 || b > 4) {
            return false;
        }
        across = a;
        down = b;
        predicts = p;
        stream = null;
        read = null;
        return true;
    }

    boolean ease(int band, int m) {
        if (band < 0 || band >= bands() || m < 0 || m > 15) {
            return false;
        }
        eases[band] = m;
        stream = null;
        read = null;
        return true;
    }

    boolean rate(int n, int m) {
        if (m < 1 || m > 64 || n < 2 * m || n > 128 * m) {
            return false;
        }
        num = n;
        den = m;
        stream = null;
        read = null;
        return true;
    }

    int bands() {
        return 1 + e + 3 * d;
    }

    long coefficient(int x, int y) {
        return x >= 0 && x < columns() && y >= 0 && y < rows() ? coefficients()[y][x] : 0;
    }

    int encode() {
        long[][] c = coefficients();
        long[][] before = new long[rows()][columns()];
        StringBuilder all = new StringBuilder();
        for (int s = 0; s < across * down; s++) {
            String bits = write(s, c, before);
            all.append(bits);
            rebuild(s, bits, before);
        }
        stream = all.toString();
        return stream.length() / 8;
    }

    int byteAt(int k) {
        if (stream == null || k < 0 || k >= stream.length() / 8) {
            return -1;
        }
        return Integer.parseInt(stream.substring(8 * k, 8 * k + 8), 2);
    }

    boolean poke(int k, int b) {
        if (byteAt(k) == -1 || b < 0 || b > 255) {
            return false;
        }
        stream = stream.substring(0, 8 * k) + binary(b, 8) + stream.substring(8 * k + 8);
        return true;
    }

    int index(int s) {
        return noSlice(s) ? -1 : Integer.parseInt(sliceBits(s).substring(0, 5), 2);
    }

    int used(int s) {
        return noSlice(s) ? -1 : lengthIn(s, sliceBits(s));
    }

    int nonzero(int s) {
        if (noSlice(s)) {
            return -1;
        }
        int n = 0;
        for (long v : numbersIn(s, sliceBits(s))) {
            n += v != 0 ? 1 : 0;
        }
        return n;
    }

    int decode() {
        if (stream == null) {
            return -1;
        }
        rebuilt = new long[rows()][columns()];
        for (int s = 0; s < across * down; s++) {
            rebuild(s, sliceBits(s), rebuilt);
        }
        read = backToPicture(rebuilt);
        int n = 0;
        for (int y = 0; y < height; y++) {
            for (int x = 0; x < width; x++) {
                n += read[y][x] != picture[y][x] ? 1 : 0;
            }
        }
        return n;
    }

    int decoded(int x, int y) {
        return read == null || sample(x, y) == NONE ? NONE : read[y][x];
    }

    long rebuilt(int x, int y) {
        return read == null || x < 0 || x >= columns() || y < 0 || y >= rows() ? 0 : rebuilt[y][x];
    }

    int error() {
        if (read == null) {
            return -1;
        }
        int sum = 0;
        for (int y = 0; y < height; y++) {
            for (int x = 0; x < width; x++) {
                sum += (read[y][x] - picture[y][x]) * (read[y][x] - picture[y][x]);
            }
        }
        return sum;
    }

    // ---- COEFFICIENTS

    int columns() {
        int p = 0;
        while (p < width) {
            p += 1 << (d + e);
        }
        return p;
    }

    int rows() {
        int q = 0;
        while (q < height) {
            q += 1 << d;
        }
        return q;
    }

    int gain() {
        return kind == 3 || kind == 5 ? 0 : 1;
    }

    long[][] coefficients() {
        long[][] a = new long[rows()][columns()];
        for (int y = 0; y < rows(); y++) {
            for (int x = 0; x < columns(); x++) {
                a[y][x] = picture[(int) clamp(y, 0, height - 1)][(int) clamp(x, 0, width - 1)];
            }
        }
        return coefficientsOf(a);
    }

    /** Of any numbers at the places (0, 0) .. (P - 1, Q - 1). */
    long[][] coefficientsOf(long[][] numbers) {
        long[][] a = numbers;
        int w = columns();
        int h = rows();
        for (int i = 0; i < d; i++) {
            a = inRegion(a, w, h, multiplied(region(a, w, h)));
            a = inRegion(a, w, h, splitRows(region(a, w, h)));
            a = inRegion(a, w, h, turned(splitRows(turned(region(a, w, h)))));
            w /= 2;
            h /= 2;
        }
        for (int i = 0; i < e; i++) {
            a = inRegion(a, w, h, multiplied(region(a, w, h)));
            a = inRegion(a, w, h, splitRows(region(a, w, h)));
            w /= 2;
        }
        return a;
    }

    int[][] backToPicture(long[][] c) {
        long[][] a = joined(c);
        int[][] out = new int[height][width];
        for (int y = 0; y < height; y++) {
            for (int x = 0; x < width; x++) {
                out[y][x] = (int) clamp(a[y][x], -128, 127);
            }
        }
        return out;
    }

    /** Back at the places (0, 0) .. (P - 1, Q - 1), before only those of the picture are kept. */
    long[][] joined(long[][] c) {
        long[][] a = inRegion(c, 0, 0, new long[0][0]);
        int h = rows() >> d;
        for (int i = e - 1; i >= 0; i--) {
            int w = columns() >> (d + i);
            a = inRegion(a, w, h, halved(joinRows(region(a, w, h))));
        }
        for (int i = d - 1; i >= 0; i--) {
            int w = columns() >> i;
            h = rows() >> i;
            a = inRegion(a, w, h, turned(joinRows(turned(region(a, w, h)))));
            a = inRegion(a, w, h, halved(joinRows(region(a, w, h))));
        }
        return a;
    }

    static long[][] region(long[][] a, int w, int h) {
        long[][] r = new long[h][];
        for (int y = 0; y < h; y++) {
            r[y] = Arrays.copyOf(a[y], w);
        }
        return r;
    }

    static long[][] inRegion(long[][] a, int w, int h, long[][] r) {
        long[][] out = new long[a.length][];
        for (int y = 0; y < a.length; y++) {
            out[y] = a[y].clone();
            for (int x = 0; y < h && x < w; x++) {
                out[y][x] = r[y][x];
            }
        }
        return out;
    }

    static long[][] turned(long[][] r) {
        long[][] out = new long[r[0].length][r.length];
        for (int y = 0; y < r.length; y++) {
            for (int x = 0; x < r[0].length; x++) {
                out[x][y] = r[y][x];
            }
        }
        return out;
    }

    long[][] multiplied(long[][] r) {
        for (long[] row : r) {
            for (int x = 0; x < row.length; x++) {
                row[x] = Math.multiplyExact(row[x], 1L << gain());
            }
        }
        return r;
    }

    long[][] halved(long[][] r) {
        for (long[] row : r) {
            for (int x = 0; x < row.length; x++) {
                row[x] = gain() == 0 ? row[x] : Math.floorDiv(row[x] + 1, 2L);
            }
        }
        return r;
    }

    long[][] splitRows(long[][] r) {
        long[][] out = new long[r.length][];
        for (int y = 0; y < r.length; y++) {
            out[y] = split(kind, r[y]);
        }
        return out;
    }

    long[][] joinRows(long[][] r) {
        long[][] out = new long[r.length][];
        for (int y = 0; y < r.length; y++) {
            out[y] = join(kind, r[y]);
        }
        return out;
    }

    // ---- SPLIT, JOIN

    static int steps(int kind) {
        return kind == 6 ? 4 : 2;
    }

    static long[] split(int kind, long[] a) {
        int n = a.length / 2;
        long[] ev = new long[n];
        long[] od = new long[n];
        for (int k = 0; k < n; k++) {
            ev[k] = a[2 * k];
            od[k] = a[2 * k + 1];
        }
        for (int i = 0; i < steps(kind); i++) {
            step(kind, i, ev, od, 1);
        }
        long[] out = Arrays.copyOf(ev, 2 * n);
        System.arraycopy(od, 0, out, n, n);
        return out;
    }

    static long[] join(int kind, long[] a) {
        int n = a.length / 2;
        long[] ev = Arrays.copyOf(a, n);
        long[] od = Arrays.copyOfRange(a, n, 2 * n);
        for (int i = steps(kind) - 1; i >= 0; i--) {
            step(kind, i, ev, od, -1);
        }
        long[] out = new long[2 * n];
        for (int k = 0; k < n; k++) {
            out[2 * k] = ev[k];
            out[2 * k + 1] = od[k];
        }
        return out;
    }

    /** Step i of a filter: which of the two it changes, and by what, stands in amount. */
    static void step(int kind, int i, long[] ev, long[] od, int direction) {
        boolean oddFirst = kind != 5;
        boolean changesOdd = (i % 2 == 0) == oddFirst;
        int sign = kind == 6 ? (i < 2 ? -1 : 1) : changesOdd ? -1 : 1;
        long[] from = changesOdd ? ev : od;
        long[] to = changesOdd ? od : ev;
        for (int k = 0; k < to.length; k++) {
            to[k] = Math.addExact(to[k], direction * sign * amount(kind, i, from, k));
        }
    }

    static long amount(int kind, int i, long[] f, int k) {
        switch (10 * kind + i) {
            case 0: return Math.floorDiv(at(f, k) + at(f, k + 1) + 1, 2L);
            case 1:
            case 11: return Math.floorDiv(at(f, k - 1) + at(f, k) + 2, 4L);
            case 10:
            case 20: return Math.floorDiv(9 * (at(f, k) + at(f, k + 1)) - (at(f, k - 1) + at(f, k + 2)) + 8, 16L);
            case 21: return Math.floorDiv(9 * (at(f, k - 1) + at(f, k)) - (at(f, k - 2) + at(f, k + 1)) + 16, 32L);
            case 30:
            case 40: return at(f, k);
            case 31:
            case 41: return Math.floorDiv(at(f, k) + 1, 2L);
            case 50: return Math.floorDiv(161 * (at(f, k - 1) + at(f, k)) - 46 * (at(f, k - 2) + at(f, k + 1))
                + 21 * (at(f, k - 3) + at(f, k + 2)) - 8 * (at(f, k - 4) + at(f, k + 3)) + 128, 256L);
            case 51: return Math.floorDiv(81 * (at(f, k) + at(f, k + 1)) - 25 * (at(f, k - 1) + at(f, k + 2))
                + 10 * (at(f, k - 2) + at(f, k + 3)) - 2 * (at(f, k - 3) + at(f, k + 4)) + 128, 256L);
            case 60: return Math.floorDiv(Math.multiplyExact(6497L, at(f, k) + at(f, k + 1)) + 2048, 4096L);
            case 61: return Math.floorDiv(Math.multiplyExact(217L, at(f, k - 1) + at(f, k)) + 2048, 4096L);
            case 62: return Math.floorDiv(Math.multiplyExact(3616L, at(f, k) + at(f, k + 1)) + 2048, 4096L);
            case 63: return Math.floorDiv(Math.multiplyExact(1817L, at(f, k - 1) + at(f, k)) + 2048, 4096L);
            default: throw new IllegalStateException();
        }
    }

    static long at(long[] f, int k) {
        return k < 0 ? f[0] : k >= f.length ? f[f.length - 1] : f[k];
    }

    // ---- BANDS, SLICES

    /** Each band as left, top, columns, rows. */
    List<int[]> bandPlaces() {
        List<int[]> out = new ArrayList<>();
        int h = rows() >> d;
        out.add(new int[] {0, 0, columns() >> (d + e), h});
        for (int i = e - 1; i >= 0; i--) {
            int w = columns() >> (d + i);
            out.add(new int[] {w / 2, 0, w / 2, h});
        }
        for (int i = d - 1; i >= 0; i--) {
            int w = (columns() >> i) / 2;
            int g = (rows() >> i) / 2;
            out.add(new int[] {w, 0, w, g});
            out.add(new int[] {0, g, w, g});
            out.add(new int[] {w, g, w, g});
        }
        return out;
    }

    /** The coefficients of a slice in their order, each as x, y, band. */
    List<int[]> order(int s) {
        int i = s % across;
        int j = s / across;
        List<int[]> out = new ArrayList<>();
        List<int[]> places = bandPlaces();
        for (int b = 0; b < places.size(); b++) {
            int[] p = places.get(b);
            for (int y = 0; y < p[3]; y++) {
                for (int x = 0; x < p[2]; x++) {
                    boolean column = x >= p[2] * i / across && x < p[2] * (i + 1) / across;
                    boolean row = y >= p[3] * j / down && y < p[3] * (j + 1) / down;
                    if (column && row) {
                        out.add(new int[] {p[0] + x, p[1] + y, b});
                    }
                }
            }
        }
        return out;
    }

    int bytesOf(int s) {
        return (s + 1) * num / den - s * num / den;
    }

    int lengthDigits(int s) {
        return Integer.toBinaryString(8 * bytesOf(s) - 5).length();
    }

    int room(int s) {
        return 8 * bytesOf(s) - 5 - lengthDigits(s);
    }

    boolean noSlice(int s) {
        return stream == null || s < 0 || s >= across * down;
    }

    String sliceBits(int s) {
        int from = 0;
        for (int t = 0; t < s; t++) {
            from += bytesOf(t);
        }
        return stream.substring(8 * from, 8 * (from + bytesOf(s)));
    }

    // ---- QUANTISER

    int eased(int q, int band) {
        return Math.max(q - eases[band], 0);
    }

    static long factor(int r) {
        long b = 1L << (r / 4);
        long[] f = {4 * b, (503829 * b + 52958) / 105917, (665857 * b + 58854) / 117708, (440253 * b + 32722) / 65444};
        return f[r % 4];
    }

    static long number(long c, int r) {
        return c < 0 ? -number(-c, r) : Math.min(4 * c / factor(r), 134217726);
    }

    static long value(long v, int r) {
        if (v <= 0) {
            return v == 0 ? 0 : -value(-v, r);
        }
        long h = r == 0 ? 1 : r == 1 ? 2 : (factor(r) + 1) / 2;
        return (v * factor(r) + h + 2) / 4;
    }

    // ---- READING, PREDICTION, WRITING

    static String bitsOf(long v) {
        String digits = Long.toBinaryString(Math.abs(v) + 1).substring(1);
        StringBuilder out = new StringBuilder();
        for (char c : digits.toCharArray()) {
            out.append('0').append(c);
        }
        if (digits.length() != 26) {
            out.append('1');
        }
        return out.append(v == 0 ? "" : v < 0 ? "1" : "0").toString();
    }

    static String binary(int v, int digits) {
        StringBuilder out = new StringBuilder(Integer.toBinaryString(v));
        while (out.length() < digits) {
            out.insert(0, '0');
        }
        return out.toString();
    }

    int lengthIn(int s, String bits) {
        return Math.min(Integer.parseInt(bits.substring(5, 5 + lengthDigits(s)), 2), room(s));
    }

    List<Long> numbersIn(int s, String bits) {
        int start = 5 + lengthDigits(s);
        String block = bits.substring(start, start + lengthIn(s, bits));
        int[] next = {0};
        List<Long> out = new ArrayList<>();
        for (int i = 0; i < order(s).size(); i++) {
            long n = 1;
            for (int times = 0; times < 26 && bit(block, next) == 0; times++) {
                n = 2 * n + bit(block, next);
            }
            long v = n - 1;
            if (v != 0 && bit(block, next) == 1) {
                v = -v;
            }
            out.add(v);
        }
        return out;
    }

    static int bit(String block, int[] next) {
        int at = next[0]++;
        return at < block.length() ? block.charAt(at) - '0' : 1;
    }

    void rebuild(int s, String bits, long[][] into) {
        int q = Integer.parseInt(bits.substring(0, 5), 2);
        List<int[]> order = order(s);
        List<Long> numbers = numbersIn(s, bits);
        for (int i = 0; i < order.size(); i++) {
            int[] o = order.get(i);
            into[o[1]][o[0]] = clamp(prediction(o, into) + value(numbers.get(i), eased(q, o[2])), -FAR, FAR);
        }
    }

    long prediction(int[] o, long[][] from) {
        int x = o[0];
        int y = o[1];
        if (!predicts || o[2] != 0 || x == 0 && y == 0) {
            return 0;
        }
        if (y == 0) {
            return from[y][x - 1];
        }
        if (x == 0) {
            return from[y - 1][x];
        }
        return Math.floorDiv(from[y][x - 1] + from[y - 1][x] + from[y - 1][x - 1] + 1, 3L);
    }

    String write(int s, long[][] c, long[][] before) {
        String all = "";
        for (int q = 0; q <= 31; q++) {
            all = numberBits(s, q, c, before);
            int n = all.lastIndexOf('0') + 1;
            if (n <= room(s)) {
                return slice(s, q, all.substring(0, n));
            }
        }
        return slice(s, 31, all.substring(0, room(s)));
    }

    String numberBits(int s, int q, long[][] c, long[][] before) {
        long[][] here = inRegion(before, 0, 0, new long[0][0]);
        StringBuilder all = new StringBuilder();
        for (int[] o : order(s)) {
            long p = prediction(o, here);
            long v = number(c[o[1]][o[0]] - p, eased(q, o[2]));
            here[o[1]][o[0]] = clamp(p + value(v, eased(q, o[2])), -FAR, FAR);
            all.append(bitsOf(v));
        }
        return all.toString();
    }

    String slice(int s, int q, String block) {
        StringBuilder out = new StringBuilder(binary(q, 5) + binary(block.length(), lengthDigits(s)) + block);
        while (out.length() < 8 * bytesOf(s)) {
            out.append('0');
        }
        return out.toString();
    }

    static long clamp(long v, long least, long most) {
        return v < least ? least : v > most ? most : v;
    }
}
