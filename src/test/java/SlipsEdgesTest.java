/** The edges that the promises 24 to 27 name, a test for each promise; and what a refused call leaves. */
public final class SlipsEdgesTest extends Edges {
    public static void main(String[] arguments) {
        new SlipsEdgesTest().run();
    }

    private void run() {
        isSeenRefuses();
        isSeenOfEachWidth();
        flips();
        shortestOfFewestBits();
        shortestUpTo48Bits();
        unseenSlipOfKindsThatSeeAll();
        bestRefuses();
        bestOfEdges();
        bestOfBitsThatSuffice();
        due.end();
    }

    private static long isSeen(CheckmarkOffice office, int shelf) {
        return office.isSeen(shelf) ? 1 : 0;
    }

    /** Promise 24: a shelf, and then a slip that turns a bit. */
    private void isSeenRefuses() {
        for (int shelf : new int[] {-1, 8, LEAST, MOST}) {
            all.range(x -> isSeen(x, shelf));
        }
        for (int shelf = 0; shelf <= 7; shelf++) {
            int at = shelf;
            empty.arithmetic(x -> isSeen(x, at));
        }
        some.arithmetic(x -> isSeen(x, 1));
        some.tells(1, x -> isSeen(x, 0));
        some.tells(1, x -> isSeen(x, 7));
        full.tells(1, x -> isSeen(x, 0));
    }

    /** Promise 24: the kind's own polynomial, times each power up to the degree 95; and slips one bit away. */
    private void isSeenOfEachWidth() {
        for (int width = 1; width <= 32; width++) {
            CheckmarkOffice x = Offices.empty();
            x.kind(width, width == 32 ? -1 : (1 << width) - 1, 0, 0, 0);
            x.ofKind(0);
            x.polynomial(1, 1, 0);
            x.polynomial(2, 2, 0);
            for (int degree = width; degree <= 95; degree++) {
                due.is(false, () -> isSeen(x, 0));
                x.join(3, 0, 1, false);
                due.is(true, () -> isSeen(x, 3));
                if (degree < 95) {
                    x.join(0, 0, 2, true);
                }
            }
            due.is(95, () -> x.join(4, 0, 1, false));
            for (int power = 0; power < 64; power++) {
                x.polynomial(5, power < 32 ? 1 << power : 0, power < 32 ? 0 : 1 << (power - 32));
                due.is(true, () -> isSeen(x, 5));
            }
        }
    }

    /** Promises 25 and 26: two to four turned bits. */
    private void flips() {
        for (int flips : new int[] {1, 5, 0, -1, -2, LEAST, MOST}) {
            all.argument(x -> x.shortest(flips));
            all.argument(x -> x.unseenSlip(flips));
        }
        some.tells(17, x -> x.shortest(4));
        some.tells(0x11021, x -> x.unseenSlip(4));
        some.tells(-1, x -> x.shortest(2));
        some.missing(x -> x.unseenSlip(2));
        some.tells(-1, x -> x.shortest(3));
        some.missing(x -> x.unseenSlip(3));
    }

    private void slip(int width, int polynomial, int flips, int bits, long slip) {
        Tried.Call told = x -> x.kind(width, polynomial, 0, 0, 0);
        some.behind(told, bits, x -> x.shortest(flips));
        some.behind(told, slip, x -> x.unseenSlip(flips));
    }

    /** Promises 25 and 26: as few bits as there can be, so many as are turned; and the widest kinds. */
    private void shortestOfFewestBits() {
        slip(1, 1, 2, 2, 3);
        slip(2, 3, 3, 3, 7);
        slip(1, 1, 4, 4, 15);
        slip(3, 7, 4, 4, 15);
        slip(32, 1, 2, 33, (1L << 32) + 1);
        slip(32, 3, 3, 33, (1L << 32) + 3);
        slip(32, LEAST | 1, 3, 33, (3L << 31) + 1);
        slip(32, LEAST | 3, 4, 33, (3L << 31) + 3);
        slip(31, 1 << 30 | 1, 3, 32, (3L << 30) + 1);
    }

    /** Promises 25 and 26: a slip of 47 bits and one of 48 are told; there is none if it needs 49 or 50. */
    private void shortestUpTo48Bits() {
        int[][] kinds = {
            {2, 47, 13, 0x16F}, {2, 47, 22, 0x45405}, {2, 48, 23, 0xC76EF},
            {2, 49, 11, 0x109}, {2, 49, 12, 0xB1B}, {2, 49, 13, 0xD2D}, {2, 50, 21, 0x81},
            {3, 47, 11, 0x52B}, {3, 48, 11, 0x113}, {3, 48, 12, 0x1DF}, {3, 48, 13, 0x2D},
            {3, 49, 10, 0xF}, {3, 49, 11, 0x2EF}, {3, 49, 13, 0x151}, {3, 50, 10, 0x27},
            {4, 47, 13, 0x7D}, {4, 48, 12, 0x225}, {4, 48, 13, 0xA3}, {4, 48, 14, 0x2B},
            {4, 49, 13, 0x35}, {4, 49, 14, 0x9F}, {4, 49, 15, 0x63}, {4, 50, 13, 0x39},
        };
        for (int[] kind : kinds) {
            int flips = kind[0];
            long by = 1L << kind[2] | kind[3];
            long slip = shortestSlip(by, flips, 50);
            due.is(kind[1], () -> 64 - Long.numberOfLeadingZeros(slip));
            Tried.Call told = x -> x.kind(kind[2], kind[3], 0, 0, 0);
            if (kind[1] <= 48) {
                slip(kind[2], kind[3], flips, kind[1], slip);
            } else {
                some.behind(told, -1, x -> x.shortest(flips));
                CheckmarkOffice x = Offices.some();
                told.on(x);
                due.missing(() -> x.unseenSlip(flips));
            }
        }
    }

    /** The shortest slip that the polynomial divides, all of them being tried, with fewest bits first. */
    private static long shortestSlip(long by, int flips, int most) {
        for (int bits = flips; bits <= most; bits++) {
            long found = Model.leastDivided(by, flips - 2, bits - 1, 1, 1L | 1L << (bits - 1));
            if (found != 0) {
                return found;
            }
        }
        return 0;
    }

    /** Promise 26: what is missing is told behind a wrong number of bits, and nothing is changed by it. */
    private void unseenSlipOfKindsThatSeeAll() {
        empty.missing(x -> x.unseenSlip(2));
        empty.missing(x -> x.unseenSlip(3));
        empty.argument(x -> x.unseenSlip(5));
        empty.tells(-1, x -> x.shortest(2));
        empty.tells(-1, x -> x.shortest(3));
        some.behind(x -> x.kind(1, 1, 0, 0, 0), -1, x -> x.shortest(3));
    }

    /** Promise 27: widths of 2 to 7, and 2 to 20 bits. */
    private void bestRefuses() {
        for (int wrong : new int[] {1, 0, -1, LEAST, MOST}) {
            all.argument(x -> x.best(wrong, 10));
            all.argument(x -> x.best(4, wrong));
            all.argument(x -> x.best(wrong, wrong));
        }
        for (int width : new int[] {8, 9, 32, 33}) {
            all.argument(x -> x.best(width, 2));
            all.argument(x -> x.best(width, 20));
        }
        for (int bits : new int[] {21, 22, 48, 64}) {
            all.argument(x -> x.best(2, bits));
            all.argument(x -> x.best(7, bits));
        }
    }

    /** Promise 27: the least numbers and the greatest ones; the kind that is told stays, as all does. */
    private void bestOfEdges() {
        Model model = new Model();
        for (int width : new int[] {2, 7}) {
            for (int bits : new int[] {2, 3, 4, 5, 19, 20}) {
                some.tells(model.best(width, bits), x -> x.best(width, bits));
                full.tells(model.best(width, bits), x -> x.best(width, bits));
            }
        }
        empty.tells(1, x -> x.best(7, 2));
        empty.tells(1, x -> x.best(2, 2));
        empty.tells(3, x -> x.best(2, 3));
        empty.tells(1, x -> x.best(2, 4));
    }

    /** Promise 27: within one bit more the least number of turned bits sinks, from 5 to 4, to 3 and to 2. */
    private void bestOfBitsThatSuffice() {
        int[][] known = {{3, 3, 1}, {3, 4, 7}, {3, 5, 3}, {3, 7, 3}, {3, 8, 1}, {4, 4, 1}, {4, 5, 15}, {4, 6, 7},
            {4, 7, 7}, {4, 8, 3}, {4, 15, 3}, {4, 16, 1}, {5, 6, 15}, {5, 7, 7}, {5, 14, 7}, {5, 15, 11}, {5, 16, 3},
            {6, 7, 15}, {6, 8, 23}, {6, 9, 7}, {7, 8, 15}, {7, 9, 23}, {7, 11, 39}, {7, 12, 7}};
        for (int[] one : known) {
            empty.tells(one[2], x -> x.best(one[0], one[1]));
        }
    }
}
