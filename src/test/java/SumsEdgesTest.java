/** The edges that the promises 9 to 15 name, a test for each promise; and what a refused call leaves. */
public final class SumsEdgesTest extends Edges {
    private static final long HIGHEST = 4294967295L;

    public static void main(String[] arguments) {
        new SumsEdgesTest().run();
    }

    private void run() {
        librarySum();
        kindRefusesForAll();
        kindOfEachWidth();
        kindIsAsItWasBehindARefusal();
        sum();
        sumIsNotBelow0();
        joined();
        changed();
        zeros();
        zerosBehindAFullRow();
        forgeRefuses();
        forgeAtEachPlace();
        forgeOfAWantedSumThatIsThere();
        due.end();
    }

    /** Both kinds of sums have spans from 0 to the size, the end not below the beginning. */
    private interface OfSpan {
        long of(CheckmarkOffice office, int from, int to);
    }

    private void spans(OfSpan sum) {
        int[][] none = {{-1, 0}, {-1, -1}, {0, -1}, {0, 65}, {65, 65}, {64, 65}, {1, 0}, {64, 63}, {LEAST, MOST},
            {0, MOST}, {0, LEAST}, {MOST, MOST}, {MOST, LEAST}, {LEAST, 0}, {LEAST, LEAST}, {MOST, 0}};
        for (int[] span : none) {
            all.range(x -> sum.of(x, span[0], span[1]));
        }
        empty.range(x -> sum.of(x, 0, 1));
        empty.range(x -> sum.of(x, 1, 1));
        some.range(x -> sum.of(x, 0, 11));
        some.range(x -> sum.of(x, 11, 11));
        some.range(x -> sum.of(x, 10, 11));
        some.range(x -> sum.of(x, 10, 9));
        some.range(x -> sum.of(x, 5, 4));
    }

    private static long crcOf(CheckmarkOffice office, int from, int to, int zeros) {
        java.util.zip.CRC32C crc = new java.util.zip.CRC32C();
        for (int place = from; place < to; place++) {
            crc.update(office.byteAt(place));
        }
        crc.update(new byte[zeros]);
        return crc.getValue();
    }

    /** Promise 9; by the terms the sum of no bytes is 0. */
    private void librarySum() {
        spans((x, from, to) -> x.librarySum(from, to));
        empty.tells(0, x -> x.librarySum(0, 0));
        for (int place = 0; place <= 10; place++) {
            int at = place;
            some.tells(0, x -> x.librarySum(at, at));
            some.tells(crcOf(Offices.some(), 0, at, 0), x -> x.librarySum(0, at));
            some.tells(crcOf(Offices.some(), at, 10, 0), x -> x.librarySum(at, 10));
        }
        full.tells(0, x -> x.librarySum(0, 0));
        full.tells(0, x -> x.librarySum(64, 64));
        full.tells(crcOf(Offices.full(), 0, 64, 0), x -> x.librarySum(0, 64));
        full.tells(crcOf(Offices.full(), 63, 64, 0), x -> x.librarySum(63, 64));
    }

    /** Promise 10: widths but for 1 to 32, even polynomials and other mirrors are refused whatever there is. */
    private void kindRefusesForAll() {
        for (int width : new int[] {0, 33, -1, 64, 65, -31, LEAST, MOST}) {
            all.argument(x -> x.kind(width, 1, 0, 0, 0));
        }
        for (int polynomial : new int[] {0, 2, -2, LEAST, MOST - 1}) {
            all.argument(x -> x.kind(32, polynomial, 0, 0, 0));
        }
        for (int mirrors : new int[] {-1, 4, 5, 7, LEAST, MOST}) {
            all.argument(x -> x.kind(32, 1, 0, 0, mirrors));
        }
    }

    private static int highest(int width) {
        return width == 32 ? -1 : (1 << width) - 1;
    }

    /** Promise 10: of each width the highest numbers are allowed, and the ones above them are not. */
    private void kindOfEachWidth() {
        for (int width = 1; width <= 32; width++) {
            int of = width;
            int top = highest(width);
            some.is(16, x -> x.kind(of, 1, 0, 0, 0));
            some.behind(x -> x.kind(of, top, top, top, 3), of, x -> x.kind(1, 1, 0, 0, 0));
            some.behind(x -> x.kind(of, 1, top, 0, 2), top & HIGHEST, x -> x.sum(0, 0));
            some.behind(x -> x.kind(of, 1, 0, top, 2), top & HIGHEST, x -> x.sum(0, 0));
            some.behind(x -> x.kind(of, 1, top, top, 0), 0, x -> x.sum(0, 0));
            some.argument(x -> x.kind(of, top - 1, 0, 0, 0));
            if (width < 32) {
                int above = top + 1;
                some.argument(x -> x.kind(of, above + 1, 0, 0, 0));
                some.argument(x -> x.kind(of, 1, above, 0, 0));
                some.argument(x -> x.kind(of, 1, 0, above, 0));
                some.argument(x -> x.kind(of, -1, 0, 0, 0));
                some.argument(x -> x.kind(of, 1, -1, 0, 0));
                some.argument(x -> x.kind(of, 1, 0, -1, 0));
                some.argument(x -> x.kind(of, 1, LEAST, 0, 0));
                some.argument(x -> x.kind(of, 1, 0, LEAST, 0));
            }
            sumsOfWidth(width, top);
        }
    }

    private void sumsOfWidth(int width, int top) {
        int[][] numbers = {{1, 0, 0}, {top, top, 0}, {top, 0, top}, {1, top ^ top >>> 1, 1}, {top, 1, top ^ top >>> 1}};
        for (int mirrors = 0; mirrors <= 3; mirrors++) {
            for (int[] number : numbers) {
                int so = mirrors;
                Model model = modelOfBytes(Offices.some(), 10);
                model.kind(width, number[0], number[1], number[2], mirrors);
                Tried.Call told = x -> x.kind(width, number[0], number[1], number[2], so);
                some.behind(told, model.sum(0, 10), x -> x.sum(0, 10));
                some.behind(told, model.sum(0, 10), x -> x.joined(5));
                some.behind(told, model.changed(9, 0), x -> x.changed(9, 0));
                some.behind(told, model.zeros(2), x -> x.zeros(2));
            }
        }
    }

    /** Promise 10: each single number that is not as told is refused, and the next width told is the one ahead. */
    private void kindIsAsItWasBehindARefusal() {
        int[][] refused = {{33, 7, 1, 1, 1}, {0, 7, 1, 1, 1}, {8, 6, 1, 1, 1}, {8, 257, 1, 1, 1}, {8, 7, 256, 1, 1},
            {8, 7, 1, 256, 1}, {8, 7, 1, 1, 4}, {8, 7, 1, 1, -1}};
        for (int[] numbers : refused) {
            CheckmarkOffice x = Offices.some();
            due.argument(() -> x.kind(numbers[0], numbers[1], numbers[2], numbers[3], numbers[4]));
            due.is(16, () -> x.kind(8, 7, 1, 1, 1));
            due.argument(() -> x.kind(numbers[0], numbers[1], numbers[2], numbers[3], numbers[4]));
            due.is(8, () -> x.kind(8, 7, 1, 1, 1));
        }
    }

    /** Promise 11. */
    private void sum() {
        spans((x, from, to) -> x.sum(from, to));
        Model model = modelOfBytes(Offices.some(), 10);
        model.kind(16, 0x1021, 0xFFFF, 0x0102, 1);
        for (int place = 0; place <= 10; place++) {
            int at = place;
            some.tells(0xFEFD, x -> x.sum(at, at));
            some.tells(model.sum(0, at), x -> x.sum(0, at));
            some.tells(model.sum(at, 10), x -> x.sum(at, 10));
        }
        empty.tells(0, x -> x.sum(0, 0));
        full.tells(Integer.MAX_VALUE, x -> x.sum(0, 0));
        full.tells(Integer.MAX_VALUE, x -> x.sum(64, 64));
    }

    /** Promises 11 to 14: a sum of 32 bits whose highest one is set is above 2147483647. */
    private void sumIsNotBelow0() {
        Tried.Call told = x -> x.kind(32, 1, 0, -1, 0);
        empty.behind(told, HIGHEST, x -> x.sum(0, 0));
        empty.behind(told, HIGHEST, x -> x.joined(0));
        empty.behind(told, HIGHEST, x -> x.zeros(0));
        empty.behind(told, HIGHEST, x -> x.zeros(1000000));
        Tried one = bytes(1);
        one.behind(told, HIGHEST, x -> x.changed(0, 0));
        one.behind(told, HIGHEST ^ 1, x -> x.sum(0, 1));
        one.behind(told, HIGHEST ^ 255, x -> x.changed(0, 255));
    }

    /** Promise 12: a place up to behind the last one. */
    private void joined() {
        for (int place : new int[] {-1, 65, LEAST, MOST}) {
            all.range(x -> x.joined(place));
        }
        empty.range(x -> x.joined(1));
        some.range(x -> x.joined(11));
        empty.tells(0, x -> x.joined(0));
        for (int place = 0; place <= 64; place++) {
            int at = place;
            full.tells(Offices.full().sum(0, 64), x -> x.joined(at));
            if (place <= 10) {
                some.tells(Offices.some().sum(0, 10), x -> x.joined(at));
            }
        }
    }

    /** Promise 13: a place, and then a byte of 0 to 255; nothing is put there. */
    private void changed() {
        for (int place : new int[] {-1, 64, LEAST, MOST}) {
            for (int value : new int[] {0, 255, -1, 256}) {
                all.range(x -> x.changed(place, value));
            }
        }
        empty.range(x -> x.changed(0, 0));
        some.range(x -> x.changed(10, 0));
        some.range(x -> x.changed(10, 256));
        for (int value : new int[] {-1, 256, LEAST, MOST}) {
            some.argument(x -> x.changed(0, value));
            some.argument(x -> x.changed(9, value));
            full.argument(x -> x.changed(63, value));
        }
        for (int value : new int[] {0, 1, 254, 255}) {
            for (int place : new int[] {0, 9}) {
                CheckmarkOffice other = Offices.some();
                other.put(place, value);
                some.tells(other.sum(0, 10), x -> x.changed(place, value));
            }
            for (int place : new int[] {0, 63}) {
                CheckmarkOffice other = Offices.full();
                other.put(place, value);
                full.tells(other.sum(0, 64), x -> x.changed(place, value));
            }
        }
        some.tells(Offices.some().sum(0, 10), x -> x.changed(9, 0xFF));
    }

    /** Promise 14: 0 to 1000000. */
    private void zeros() {
        for (int many : new int[] {-1, 1000001, LEAST, MOST}) {
            all.argument(x -> x.zeros(many));
        }
        empty.tells(0, x -> x.zeros(0));
        some.tells(Offices.some().sum(0, 10), x -> x.zeros(0));
        full.tells(Offices.full().sum(0, 64), x -> x.zeros(0));
        empty.tells(crcOf(Offices.empty(), 0, 0, 1), x -> x.zeros(1));
        empty.tells(crcOf(Offices.empty(), 0, 0, 999999), x -> x.zeros(999999));
        empty.tells(crcOf(Offices.empty(), 0, 0, 1000000), x -> x.zeros(1000000));
        for (int[] kind : new int[][] {{1, 1, 1, 0, 0}, {31, MOST, 5, 7, 2}, {32, -1, -1, 1, 0}}) {
            Model model = modelOfBytes(Offices.some(), 10);
            model.kind(kind[0], kind[1], kind[2], kind[3], kind[4]);
            some.behind(x -> x.kind(kind[0], kind[1], kind[2], kind[3], kind[4]), model.zeros(1000000),
                    x -> x.zeros(1000000));
        }
    }

    /** Promise 14: however many, also behind 64 bytes, which stay 64. */
    private void zerosBehindAFullRow() {
        Tried row = bytes(64);
        for (int many : new int[] {1, 2, 65, 1000000}) {
            row.tells(crcOf(Offices.ofBytes(64), 0, 64, many), x -> x.zeros(many));
        }
    }

    /** Promise 15: four bytes from the place on, and then a sum of 0 to 4294967295. */
    private void forgeRefuses() {
        for (int place : new int[] {-1, 61, 64, LEAST, MOST, MOST - 3}) {
            for (long wanted : new long[] {0, -1, HIGHEST + 1}) {
                all.range(x -> x.forge(place, wanted));
            }
        }
        for (int size = 0; size <= 3; size++) {
            Tried row = bytes(size);
            row.range(x -> x.forge(0, 0));
            row.range(x -> x.forge(0, -1));
            row.range(x -> x.forge(-4, 0));
        }
        bytes(4).range(x -> x.forge(1, 0));
        some.range(x -> x.forge(7, 0));
        for (long wanted : new long[] {-1, HIGHEST + 1, Long.MIN_VALUE, Long.MAX_VALUE, 1L << 32 | 1}) {
            bytes(4).argument(x -> x.forge(0, wanted));
            some.argument(x -> x.forge(6, wanted));
            full.argument(x -> x.forge(60, wanted));
        }
    }

    private void forgeAtEachPlace() {
        for (int size : new int[] {4, 5, 63, 64}) {
            for (int place = 0; place <= size - 4; place++) {
                for (long wanted : new long[] {0, 1, 1L << 31, HIGHEST}) {
                    forged(size, place, wanted);
                }
            }
        }
    }

    private void forged(int size, int place, long wanted) {
        CheckmarkOffice x = Offices.ofBytes(size);
        int word = x.forge(place, wanted);
        due.is(wanted, () -> x.librarySum(0, size));
        for (int at = 0; at < size; at++) {
            int of = at;
            boolean isForged = of >= place && of < place + 4;
            due.is(isForged ? word >>> (24 - 8 * (of - place)) & 255 : of + 1, () -> x.byteAt(of));
        }
        due.range(() -> x.byteAt(size));
        due.is(size, () -> x.undo());
        due.is(crcOf(Offices.ofBytes(size), 0, size, 0), () -> x.librarySum(0, size));
    }

    /** The bytes that are put are those that are there; and by the terms the row is kept also then. */
    private void forgeOfAWantedSumThatIsThere() {
        for (int place : new int[] {0, 30, 60}) {
            CheckmarkOffice x = Offices.ofBytes(64);
            due.is((place + 1) * 0x01010101 + 0x00010203, () -> x.forge(place, x.librarySum(0, 64)));
            due.is(64, () -> x.undo());
            due.is(63, () -> x.undo());
        }
    }
}
