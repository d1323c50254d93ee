/** One object and its calls: at most 512 of them, since the document leaves free what later ones answer. */
final class Run {
    static final int MOST_CALLS = 512;

    private final WaveletSlices coder;
    private int calls = 0;

    Run(int width, int height) {
        coder = new WaveletSlices(width, height);
    }

    int callsLeft() {
        return MOST_CALLS - calls;
    }

    private WaveletSlices next() {
        calls++;
        if (calls > MOST_CALLS) {
            throw new IllegalStateException("this test makes more than " + MOST_CALLS + " calls on one object");
        }
        return coder;
    }

    boolean paint(int x, int y, int w, int h, int v) {
        return next().paint(x, y, w, h, v);
    }

    boolean slope(int across, int down) {
        return next().slope(across, down);
    }

    int sample(int x, int y) {
        return next().sample(x, y);
    }

    boolean filter(int kind, int both, int wide) {
        return next().filter(kind, both, wide);
    }

    boolean slices(int across, int down, boolean predict) {
        return next().slices(across, down, predict);
    }

    boolean ease(int band, int m) {
        return next().ease(band, m);
    }

    boolean rate(int num, int den) {
        return next().rate(num, den);
    }

    int bands() {
        return next().bands();
    }

    long coefficient(int x, int y) {
        return next().coefficient(x, y);
    }

    int encode() {
        return next().encode();
    }

    int byteAt(int k) {
        return next().byteAt(k);
    }

    boolean poke(int k, int b) {
        return next().poke(k, b);
    }

    int index(int s) {
        return next().index(s);
    }

    int used(int s) {
        return next().used(s);
    }

    int nonzero(int s) {
        return next().nonzero(s);
    }

    int decode() {
        return next().decode();
    }

    int decoded(int x, int y) {
        return next().decoded(x, y);
    }

    long rebuilt(int x, int y) {
        return next().rebuilt(x, y);
    }

    int error() {
        return next().error();
    }
}
