import java.util.Random;

/** Runs of calls, drawn from fixed seeds, whose every answer must be the one of the Reference. */
public final class ReferenceTest {
    private static final int RUNS = 1500;

    /** A step of a run is never more calls than this. */
    private static final int MOST_AT_ONCE = 12;
    private static final int[] ODD = {
        Integer.MIN_VALUE, Integer.MAX_VALUE, -1, 0, 1, 16, 17, 127, 128, -128, -129, 255, 256, 1 << 30, -1000
    };

    private final Check check;
    private final Random random;
    private final StringBuilder told = new StringBuilder();
    private Run x;
    private Reference y;

    private ReferenceTest(Check check, long seed) {
        this.check = check;
        this.random = new Random(seed);
    }

    public static void main(String[] args) {
        Check check = new Check("ReferenceTest");
        for (int seed = 0; seed < RUNS && check.wrong() == 0; seed++) {
            ReferenceTest run = new ReferenceTest(check, seed);
            run.calls(seed % 3 == 0 ? 25 : 70);
            if (check.wrong() > 0) {
                System.out.println("in the run of seed " + seed + ":" + run.told);
            }
        }
        check.end();
    }

    /** Mostly a number of least .. most, now and then one that may be wrong. */
    private int some(int least, int most) {
        int kind = random.nextInt(40);
        if (kind == 0) {
            return ODD[random.nextInt(ODD.length)];
        }
        if (kind == 1) {
            return random.nextBoolean() ? least - 1 : most + 1;
        }
        if (kind < 8) {
            return random.nextBoolean() ? least : most;
        }
        return least + random.nextInt(most - least + 1);
    }

    private void calls(int count) {
        int w = some(1, 16);
        int h = some(1, 16);
        told.append(" new(").append(w).append(", ").append(h).append(')');
        x = new Run(w, h);
        y = new Reference(w, h);
        for (int i = 0; i < count && x.callsLeft() >= MOST_AT_ONCE && check.wrong() == 0; i++) {
            oneCall();
        }
        askOn();
    }

    private void same(String call, long got, long want) {
        told.append(' ').append(call).append(" -> ").append(want);
        check.due(call, got, want);
    }

    private void same(String call, boolean got, boolean want) {
        same(call, got ? 1 : 0, want ? 1 : 0);
    }

    private void oneCall() {
        int kind = random.nextInt(32);
        if (kind < 7) {
            paintOrSlope();
        } else if (kind < 13) {
            setUp();
        } else if (kind < 17) {
            same("encode()", x.encode(), y.encode());
        } else if (kind < 21) {
            same("decode()", x.decode(), y.decode());
        } else if (kind < 25) {
            poke();
        } else {
            ask();
        }
    }

    private void paintOrSlope() {
        if (random.nextInt(3) == 0) {
            int a = some(-32, 32);
            int b = some(-32, 32);
            same("slope(" + a + ", " + b + ")", x.slope(a, b), y.slope(a, b));
            return;
        }
        int i = some(0, y.width - 1);
        int j = some(0, y.height - 1);
        int w = some(1, 16);
        int h = some(1, 16);
        int v = some(-128, 127);
        String call = "paint(" + i + ", " + j + ", " + w + ", " + h + ", " + v + ")";
        same(call, x.paint(i, j, w, h, v), y.paint(i, j, w, h, v));
    }

    private void setUp() {
        switch (random.nextInt(4)) {
            case 0: {
                int k = some(0, 6);
                int d = some(0, 2);
                int e = some(0, 2);
                same("filter(" + k + ", " + d + ", " + e + ")", x.filter(k, d, e), y.filter(k, d, e));
                break;
            }
            case 1: {
                int a = some(1, 4);
                int b = some(1, 4);
                boolean p = random.nextInt(3) != 0;
                same("slices(" + a + ", " + b + ", " + p + ")", x.slices(a, b, p), y.slices(a, b, p));
                break;
            }
            case 2: {
                int b = some(0, y.bands() - 1);
                int m = some(0, 15);
                same("ease(" + b + ", " + m + ")", x.ease(b, m), y.ease(b, m));
                break;
            }
            default: {
                int den = some(1, 64);
                int sane = den < 1 || den > 64 ? 1 : den;
                int num = some(2 * sane, (random.nextBoolean() ? 12 : 128) * sane);
                same("rate(" + num + ", " + den + ")", x.rate(num, den), y.rate(num, den));
            }
        }
    }

    /** Zeros all over a slice make numbers as big as they can be, so they are poked in rows. */
    private void poke() {
        int size = y.stream == null ? 1 : y.stream.length() / 8;
        int first = some(0, size - 1);
        int count = random.nextInt(4) == 0 ? 1 + random.nextInt(MOST_AT_ONCE) : 1;
        int b = random.nextInt(3) == 0 ? 0 : some(0, 255);
        for (int i = 0; i < count; i++) {
            int k = first + i;
            same("poke(" + k + ", " + b + ")", x.poke(k, b), y.poke(k, b));
        }
    }

    private void ask() {
        int i = some(0, y.columns() - 1);
        int j = some(0, y.rows() - 1);
        int s = some(0, y.across * y.down - 1);
        int k = some(0, y.stream == null ? 1 : y.stream.length() / 8 - 1);
        same("sample(" + i + ", " + j + ")", x.sample(i, j), y.sample(i, j));
        same("coefficient(" + i + ", " + j + ")", x.coefficient(i, j), y.coefficient(i, j));
        same("decoded(" + i + ", " + j + ")", x.decoded(i, j), y.decoded(i, j));
        same("rebuilt(" + i + ", " + j + ")", x.rebuilt(i, j), y.rebuilt(i, j));
        same("byteAt(" + k + ")", x.byteAt(k), y.byteAt(k));
        same("index(" + s + ")", x.index(s), y.index(s));
        same("used(" + s + ")", x.used(s), y.used(s));
        same("nonzero(" + s + ")", x.nonzero(s), y.nonzero(s));
        same("bands()", x.bands(), y.bands());
        same("error()", x.error(), y.error());
    }

    /** Asks all over the place until the run is at its end. */
    private void askOn() {
        long[][] c = y.coefficients();
        while (x.callsLeft() >= 8) {
            int i = random.nextInt(c[0].length + 2) - 1;
            int j = random.nextInt(c.length + 2) - 1;
            boolean there = j >= 0 && j < c.length && i >= 0 && i < c[0].length;
            same("coefficient(" + i + ", " + j + ")", x.coefficient(i, j), there ? c[j][i] : 0);
            same("rebuilt(" + i + ", " + j + ")", x.rebuilt(i, j), y.rebuilt(i, j));
            same("decoded(" + i + ", " + j + ")", x.decoded(i, j), y.decoded(i, j));
            same("sample(" + i + ", " + j + ")", x.sample(i, j), y.sample(i, j));
            int k = random.nextInt(y.stream == null ? 3 : y.stream.length() / 8 + 2) - 1;
            same("byteAt(" + k + ")", x.byteAt(k), y.byteAt(k));
            int s = random.nextInt(y.across * y.down + 2) - 1;
            same("index(" + s + ")", x.index(s), y.index(s));
            same("used(" + s + ")", x.used(s), y.used(s));
            same("nonzero(" + s + ")", x.nonzero(s), y.nonzero(s));
        }
    }
}
