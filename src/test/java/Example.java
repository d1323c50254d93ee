/** The example of README.md; ReadmeTest sees to it that the two are the same and that it prints what it says. */
final class Example {
    private Example() {
    }

    static void run() {
        WaveletSlices coder = new WaveletSlices(16, 16);  // 16 columns, 16 rows, all samples 0
        coder.slope(5, 3);                                // draw something
        coder.paint(4, 4, 6, 6, -100);

        coder.filter(1, 2, 1);                            // filter 1, two levels BOTH, one level WIDE
        coder.slices(4, 4, true);                         // 4 by 4 slices, with prediction in band 0
        coder.ease(0, 4);                                 // band 0 is quantised more finely than the others
        coder.rate(8, 1);                                 // 8 bytes for each slice

        System.out.println(coder.encode());               // 128 bytes
        System.out.println(coder.index(5));               // 17, the quantiser of slice 5
        System.out.println(coder.decode());               // 202 samples differ
        System.out.println(coder.error());                // 2468, the sum of the squared differences

        coder.poke(40, 255);                              // damage the first byte of slice 5
        System.out.println(coder.decode());               // 254 samples differ
        System.out.println(coder.decoded(9, 9));          // 120, a sample of the read picture
        System.out.println(coder.paint(16, 0, 1, 1, 5));  // false: column 16 is not there
    }
}
