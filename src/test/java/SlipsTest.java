/** Promises 24 to 27: slips that a kind sees, and does not see. */
public final class SlipsTest {
    private final Due due = new Due();

    public static void main(String[] arguments) {
        new SlipsTest().run();
    }

    private void run() {
        isSeen();
        seenJustIfTheSumIsAnother();
        shortestOfKnown();
        slipsWithin48Bits();
        leastOfAll();
        refusedFlips();
        best();
        bestRefuses();
        due.end();
    }

    private void isSeen() {
        CheckmarkOffice x = new CheckmarkOffice();
        due.arithmetic(() -> x.isSeen(0) ? 1 : 0);
        due.range(() -> x.isSeen(8) ? 1 : 0);
        due.range(() -> x.isSeen(-1) ? 1 : 0);
        x.ofKind(0);
        due.is(false, () -> x.isSeen(0) ? 1 : 0);
        x.polynomial(1, 0, 0x80000001);
        x.join(2, 0, 1, true);
        due.is(false, () -> x.isSeen(2) ? 1 : 0);
        x.polynomial(3, 1, 0);
        x.join(2, 2, 3, false);
        due.is(true, () -> x.isSeen(2) ? 1 : 0);
        due.is(true, () -> x.isSeen(3) ? 1 : 0);
        due.is(0x1EDC6F41, () -> x.bits(0, 0));
        x.kind(1, 1, 0, 0, 0);
        x.polynomial(4, 0b10010, 1);
        due.is(true, () -> x.isSeen(4) ? 1 : 0);
        x.polynomial(4, 0b10010, 3);
        due.is(false, () -> x.isSeen(4) ? 1 : 0);
    }

    /** The bits of three bytes, in the order gone through, are turned by each slip of up to 24 bits that is tried. */
    private void seenJustIfTheSumIsAnother() {
        int[][] kinds = {{4, 3, 9, 0, 0}, {5, 5, 31, 31, 1}, {8, 7, 1, 2, 3}, {7, 9, 0, 0, 2}};
        for (int[] kind : kinds) {
            for (int slip = 1; slip < 1 << 24; slip += 17 + slip / 31) {
                CheckmarkOffice x = BytesTest.withBytes(0x12, 0xFE, 0x83);
                x.kind(kind[0], kind[1], kind[2], kind[3], kind[4]);
                long sum = x.sum(0, 3);
                for (int place = 0; place < 3; place++) {
                    int turned = slip >>> (16 - 8 * place) & 255;
                    x.put(place, x.byteAt(place) ^ ((kind[4] & 1) == 1 ? Integer.reverse(turned) >>> 24 : turned));
                }
                x.polynomial(0, slip, 0);
                due.is(x.sum(0, 3) != sum, () -> x.isSeen(0) ? 1 : 0);
            }
        }
    }

    private void slip(int width, int polynomial, int flips, long slip) {
        CheckmarkOffice x = new CheckmarkOffice();
        x.kind(width, polynomial, 0, 0, flips % 4);
        if (slip == 0) {
            due.is(-1, () -> x.shortest(flips));
            due.missing(() -> x.unseenSlip(flips));
        } else {
            due.is(64 - Long.numberOfLeadingZeros(slip), () -> x.shortest(flips));
            due.is(slip, () -> x.unseenSlip(flips));
        }
    }

    private void shortestOfKnown() {
        slip(1, 1, 2, 3);
        slip(1, 1, 3, 0);
        slip(1, 1, 4, 15);
        slip(4, 3, 2, 32769);
        slip(4, 3, 3, 19);
        slip(4, 9, 3, 25);
        slip(16, 0x1021, 2, 0);
        slip(16, 0x1021, 3, 0);
        slip(16, 0x1021, 4, 0x11021);
        slip(2, 3, 2, 9);
        slip(2, 3, 3, 7);
        slip(3, 1, 2, 9);
    }

    /** A kind that divides a slip of 48 bits, and one for which it would need 49. */
    private void slipsWithin48Bits() {
        slip(24, 1, 2, (1L << 24) + 1);
        slip(32, 1, 2, (1L << 32) + 1);
        slip(32, 1 | 1 << 15, 3, (1L << 32) | 1 << 15 | 1);
        CheckmarkOffice x = new CheckmarkOffice();
        due.is(-1, () -> x.shortest(2));
        due.is(-1, () -> x.shortest(3));
        long[] spans = spansOfTwo();
        slip(23, (int) (spans[0] & (1 << 23) - 1), 2, 1L << 47 | 1);
        slip(24, (int) (spans[1] & (1 << 24) - 1), 2, 0);
    }

    /** Polynomials of the order 47, whose slip has just 48 bits, and of the order 48, whose slip has one more. */
    private static long[] spansOfTwo() {
        long shorter = 0;
        for (long tried = (1L << 23) + 1; shorter == 0; tried += 2) {
            if (rest((1L << 47) + 1, tried) == 0) {
                shorter = tried;
            }
        }
        long longer = 0;
        for (long tried = (1L << 24) + 1; longer == 0; tried += 2) {
            if (rest((1L << 48) + 1, tried) == 0 && rest((1L << 24) + 1, tried) != 0) {
                longer = tried;
            }
        }
        return new long[] {shorter, longer};
    }

    private static long rest(long number, long by) {
        int degree = 63 - Long.numberOfLeadingZeros(by);
        long rest = number;
        while (rest != 0 && 63 - Long.numberOfLeadingZeros(rest) >= degree) {
            rest ^= by << (63 - Long.numberOfLeadingZeros(rest) - degree);
        }
        return rest;
    }

    /** All slips within the shortest span are gone through, also those that do not begin at the last bit. */
    private void leastOfAll() {
        int[][] kinds = {{5, 5}, {6, 0x27}, {7, 9}, {8, 7}, {8, 0x2F}, {9, 0x119}, {10, 0x233}, {12, 0x80F}, {3, 7}};
        for (int[] kind : kinds) {
            for (int flips = 2; flips <= 4; flips++) {
                CheckmarkOffice x = new CheckmarkOffice();
                x.kind(kind[0], kind[1], 0, 0, 0);
                int so = flips;
                int bits = x.shortest(flips);
                long by = 1L << kind[0] | kind[1];
                if (bits < 0) {
                    due.is(0, () -> Model.leastDivided(by, so, so == 4 ? 24 : 48, 0, 0));
                    continue;
                }
                due.is(Model.leastDivided(by, so, bits, 0, 0), () -> x.unseenSlip(so));
                due.is(0, () -> Model.leastDivided(by, so, bits - 1, 0, 0));
            }
        }
    }

    private void refusedFlips() {
        CheckmarkOffice x = new CheckmarkOffice();
        for (int flips : new int[] {1, 5, 0, -1, Integer.MIN_VALUE, Integer.MAX_VALUE}) {
            due.argument(() -> x.shortest(flips));
            due.argument(() -> x.unseenSlip(flips));
        }
    }

    private void best() {
        CheckmarkOffice x = new CheckmarkOffice();
        due.is(3, () -> x.best(4, 10));
        due.is(1, () -> x.best(4, 16));
        Model model = new Model();
        for (int width = 2; width <= 7; width++) {
            for (int bits = 2; bits <= 20; bits++) {
                int of = width;
                int within = bits;
                due.is(model.best(of, within), () -> x.best(of, within));
            }
        }
        due.is(32, () -> x.ofKind(0));
        due.is(0xE3069283L, () -> BytesTest.withBytes('1', '2', '3', '4', '5', '6', '7', '8', '9').sum(0, 9));
    }

    private void bestRefuses() {
        CheckmarkOffice x = new CheckmarkOffice();
        due.argument(() -> x.best(1, 10));
        due.argument(() -> x.best(8, 10));
        due.argument(() -> x.best(4, 1));
        due.argument(() -> x.best(4, 21));
        due.argument(() -> x.best(Integer.MIN_VALUE, 10));
        due.argument(() -> x.best(4, Integer.MAX_VALUE));
        due.is(1, () -> x.best(2, 20));
        due.is(1, () -> x.best(7, 2));
    }
}
