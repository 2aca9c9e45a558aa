import java.util.zip.CRC32C;

/** Promises 35 to 44: sums of sums, chunks, the tree, and the theorem. */
public final class ChunksAndTreeTest {
    private final Due due = new Due();

    public static void main(String[] arguments) {
        new ChunksAndTreeTest().run();
    }

    private void run() {
        fletcher();
        adler();
        rolling();
        chunks();
        chunkEnd();
        chunkRefusals();
        stays();
        staysWith64();
        staysRefuses();
        root();
        beside();
        climbed();
        isSound();
        due.end();
    }

    private static CheckmarkOffice text(String signs) {
        return BytesTest.withBytes(signs.chars().toArray());
    }

    private static CheckmarkOffice same(int value, int many) {
        int[] values = new int[many];
        java.util.Arrays.fill(values, value);
        return BytesTest.withBytes(values);
    }

    private void fletcher() {
        due.is(0, () -> new CheckmarkOffice().fletcher());
        due.is(0xC8F0, () -> text("abcde").fletcher());
        due.is(0x2057, () -> text("abcdef").fletcher());
        due.is(0x0627, () -> text("abcdefgh").fletcher());
        due.is(0, () -> same(255, 64).fletcher());
        due.is(0xFEFE, () -> same(254, 1).fletcher());
        due.is(256 * (64 * 65 / 2 * 254 % 255) + 64 * 254 % 255, () -> same(254, 64).fletcher());
    }

    private void adler() {
        due.is(1, () -> new CheckmarkOffice().adler());
        due.is(0x11E60398, () -> text("Wikipedia").adler());
        due.is(0x01000100, () -> same(255, 1).adler());
        due.is((64L * 65 / 2 * 255 + 64) % 65521 * 65536 + 64 * 255 + 1, () -> same(255, 64).adler());
        due.is(true, () -> same(255, 16).adler() > Integer.MAX_VALUE ? 1 : 0);
    }

    private void rolling() {
        CheckmarkOffice x = BytesTest.withBytes(1, 2, 3, 255, 254, 253, 252, 251, 250);
        due.is(1, () -> x.rolling(0, 1));
        due.is(1 * 31 + 2, () -> x.rolling(1, 2));
        due.is(1 * 961 + 2 * 31 + 3, () -> x.rolling(2, 3));
        due.is((29791 + 2 * 961 + 3 * 31 + 255) % 65521, () -> x.rolling(3, 4));
        due.is(250, () -> x.rolling(8, 1));
        long total = 0;
        long times = 1;
        for (int back = 0; back < 8; back++) {
            total += times * x.byteAt(8 - back);
            times *= 31;
        }
        due.is(total % 65521, () -> x.rolling(8, 8));
        due.missing(() -> x.rolling(0, 2));
        due.missing(() -> x.rolling(6, 8));
        due.is(true, () -> x.rolling(7, 8) >= 0 ? 1 : 0);
        due.range(() -> x.rolling(9, 1));
        due.range(() -> x.rolling(-1, 1));
        due.range(() -> x.rolling(9, 9));
        due.argument(() -> x.rolling(0, 0));
        due.argument(() -> x.rolling(0, 9));
        due.argument(() -> x.rolling(8, -1));
        due.argument(() -> x.rolling(8, Integer.MIN_VALUE));
        due.argument(() -> x.rolling(8, Integer.MAX_VALUE));
        due.range(() -> new CheckmarkOffice().rolling(0, 1));
        CheckmarkOffice y = BytesTest.withBytes(2, 6, 5, 17);
        due.is(65520, () -> y.rolling(3, 4));
        y.put(3, 18);
        due.is(0, () -> y.rolling(3, 4));
    }

    private void chunks() {
        due.is(0, () -> new CheckmarkOffice().chunks(1, 2));
        due.is(1, () -> same(1, 1).chunks(1, 2));
        due.is(1, () -> same(2, 1).chunks(1, 2));
        due.is(1, () -> same(1, 64).chunks(1, 2));
        due.is(64, () -> same(0, 64).chunks(1, 64));
        due.is(57, () -> same(0, 64).chunks(8, 64));
        due.is(1, () -> same(0, 7).chunks(8, 2));
        due.is(1, () -> same(0, 8).chunks(8, 2));
        due.is(2, () -> same(0, 9).chunks(8, 2));
        due.is(2, () -> BytesTest.withBytes(3, 64, 63).chunks(1, 64));
        due.is(1, () -> BytesTest.withBytes(3, 63, 64).chunks(1, 64));
    }

    private void chunkEnd() {
        CheckmarkOffice x = BytesTest.withBytes(1, 5, 2, 10, 10, 3, 7);
        due.is(4, () -> x.chunks(1, 5));
        due.is(2, () -> x.chunkEnd(1, 5, 0));
        due.is(4, () -> x.chunkEnd(1, 5, 1));
        due.is(5, () -> x.chunkEnd(1, 5, 2));
        due.is(7, () -> x.chunkEnd(1, 5, 3));
        due.range(() -> x.chunkEnd(1, 5, 4));
        due.range(() -> x.chunkEnd(1, 5, -1));
        due.range(() -> x.chunkEnd(1, 5, Integer.MAX_VALUE));
        due.range(() -> new CheckmarkOffice().chunkEnd(1, 5, 0));
        due.is(8, () -> same(0, 64).chunkEnd(8, 2, 0));
        due.is(64, () -> same(0, 64).chunkEnd(8, 2, 56));
        due.is(64, () -> same(0, 64).chunkEnd(1, 2, 63));
    }

    private void chunkRefusals() {
        CheckmarkOffice x = BytesTest.withBytes(1, 5, 2);
        int[][] refused = {{0, 5}, {9, 5}, {-1, 5}, {1, 1}, {1, 65}, {1, 0}, {1, -5}, {Integer.MIN_VALUE, 5},
            {1, Integer.MIN_VALUE}, {Integer.MAX_VALUE, 2}, {8, Integer.MAX_VALUE}};
        for (int[] numbers : refused) {
            due.argument(() -> x.chunks(numbers[0], numbers[1]));
            due.argument(() -> x.chunkEnd(numbers[0], numbers[1], 0));
            due.argument(() -> x.chunkEnd(numbers[0], numbers[1], 99));
            due.argument(() -> x.stays(numbers[0], numbers[1], 0, 0));
            due.argument(() -> x.stays(numbers[0], numbers[1], 99, 0));
        }
        due.is(1, () -> x.chunks(8, 64));
    }

    private void stays() {
        CheckmarkOffice x = BytesTest.withBytes(1, 5, 2, 10, 1, 5, 3, 7);
        due.is(4, () -> x.chunks(1, 5));
        due.is(3, () -> x.stays(1, 5, 0, 9));
        due.is(4, () -> x.stays(1, 5, 0, 5));
        due.is(4, () -> x.stays(1, 5, 1, 5));
        due.is(3, () -> x.stays(1, 5, 8, 9));
        due.is(3, () -> x.stays(1, 5, 6, 4));
        due.is(4, () -> x.stays(1, 5, 6, 10));
        due.is(3, () -> x.stays(1, 5, 8, 5));
        due.is(7, () -> x.byteAt(7));
        due.range(() -> x.byteAt(8));
        due.is(0, () -> new CheckmarkOffice().stays(1, 5, 0, 5));
        CheckmarkOffice y = BytesTest.withBytes(1, 5, 1, 5, 1);
        due.is(2, () -> y.stays(1, 5, 5, 5));
        due.is(2, () -> y.stays(1, 5, 0, 7));
        due.is(2, () -> y.stays(1, 5, 2, 3));
        due.is(3, () -> y.stays(1, 5, 2, 5));
        CheckmarkOffice z = BytesTest.withBytes(1, 5, 5, 2);
        due.is(3, () -> z.stays(1, 5, 1, 5));
    }

    private void staysWith64() {
        due.is(64, () -> same(0, 64).stays(1, 2, 64, 0));
        due.is(64, () -> same(0, 64).stays(1, 2, 0, 0));
        due.is(64, () -> same(0, 64).stays(1, 2, 64, 1));
        due.is(63, () -> same(0, 64).stays(1, 2, 63, 1));
        due.is(0, () -> same(1, 64).stays(1, 2, 64, 1));
        CheckmarkOffice y = same(0, 64);
        y.put(63, 2);
        due.is(64, () -> y.stays(1, 2, 0, 4));
        CheckmarkOffice x = same(0, 64);
        x.stays(1, 2, 3, 9);
        due.is(0, () -> x.byteAt(3));
        due.range(() -> x.byteAt(64));
    }

    private void staysRefuses() {
        CheckmarkOffice x = BytesTest.withBytes(1, 5, 2);
        due.range(() -> x.stays(1, 5, 4, 0));
        due.range(() -> x.stays(1, 5, -1, 0));
        due.argument(() -> x.stays(1, 5, 4, 256));
        due.argument(() -> x.stays(1, 5, 0, 256));
        due.argument(() -> x.stays(1, 5, 0, -1));
        due.range(() -> same(0, 64).stays(1, 5, 65, 1));
    }

    private static long crc(int... values) {
        CRC32C crc = new CRC32C();
        for (int value : values) {
            crc.update(value);
        }
        return crc.getValue();
    }

    private static long pair(long one, long other) {
        return crc((int) (one >> 24), (int) (one >> 16), (int) (one >> 8), (int) one,
                (int) (other >> 24), (int) (other >> 16), (int) (other >> 8), (int) other);
    }

    private void root() {
        due.missing(() -> new CheckmarkOffice().root());
        due.is(crc(7), () -> BytesTest.withBytes(7).root());
        due.is(crc(1, 2, 3, 4), () -> BytesTest.withBytes(1, 2, 3, 4).root());
        long one = crc(1, 2, 3, 4);
        long two = crc(5, 6, 7, 8);
        long three = crc(9);
        due.is(pair(one, three), () -> BytesTest.withBytes(1, 2, 3, 4, 9).root());
        due.is(pair(one, two), () -> BytesTest.withBytes(1, 2, 3, 4, 5, 6, 7, 8).root());
        due.is(pair(pair(one, two), three), () -> BytesTest.withBytes(1, 2, 3, 4, 5, 6, 7, 8, 9).root());
        due.is(pair(pair(pair(one, two), pair(one, two)), three),
                () -> BytesTest.withBytes(1, 2, 3, 4, 5, 6, 7, 8, 1, 2, 3, 4, 5, 6, 7, 8, 9).root());
        Model model = new Model();
        CheckmarkOffice x = new CheckmarkOffice();
        for (int value = 0; value < 64; value++) {
            x.type(value * 0x05000000, 1);
            model.type(value * 0x05000000, 1);
            due.is(model.root(), () -> x.root());
        }
    }

    private void beside() {
        long one = crc(1, 2, 3, 4);
        long two = crc(5, 6, 7, 8);
        long three = crc(9);
        CheckmarkOffice x = BytesTest.withBytes(1, 2, 3, 4, 5, 6, 7, 8, 9);
        due.is(two, () -> x.beside(0, 0));
        due.is(three, () -> x.beside(0, 1));
        due.is(one, () -> x.beside(1, 0));
        due.is(three, () -> x.beside(1, 1));
        due.is(-1, () -> x.beside(2, 0));
        due.is(pair(one, two), () -> x.beside(2, 1));
        due.missing(() -> x.beside(0, 2));
        due.missing(() -> x.beside(2, 2));
        due.missing(() -> x.beside(0, -1));
        due.missing(() -> x.beside(1, Integer.MAX_VALUE));
        due.missing(() -> x.beside(1, Integer.MIN_VALUE));
        due.range(() -> x.beside(3, 0));
        due.range(() -> x.beside(-1, 0));
        due.range(() -> x.beside(3, 9));
        due.range(() -> new CheckmarkOffice().beside(0, 0));
        due.missing(() -> BytesTest.withBytes(1).beside(0, 0));
        due.range(() -> BytesTest.withBytes(1, 2, 3, 4).beside(1, 0));
        CheckmarkOffice y = BytesTest.full();
        due.is(true, () -> y.beside(15, 3) >= 0 ? 1 : 0);
        due.missing(() -> y.beside(15, 4));
        due.range(() -> y.beside(16, 0));
        y.drop(63);
        y.drop(62);
        y.drop(61);
        y.drop(60);
        due.is(-1, () -> y.beside(14, 0));
        due.is(true, () -> y.beside(14, 1) >= 0 ? 1 : 0);
    }

    private void climbed() {
        CheckmarkOffice x = BytesTest.withBytes(1, 2, 3, 4, 5, 6, 7, 8, 9, 10);
        due.is(pair(pair(crc(255, 0, 1, 128), crc(5, 6, 7, 8)), crc(9, 10)), () -> x.climbed(0, 0xFF000180));
        due.is(pair(pair(crc(1, 2, 3, 4), crc(0, 0, 0, 0)), crc(9, 10)), () -> x.climbed(1, 0));
        due.is(pair(pair(crc(1, 2, 3, 4), crc(5, 6, 7, 8)), crc(0xAB, 0xCD)), () -> x.climbed(2, 0xABCDEF01));
        due.is(x.root(), () -> x.climbed(1, 0x05060708));
        due.range(() -> x.climbed(3, 0));
        due.range(() -> x.climbed(-1, 0));
        due.range(() -> x.climbed(Integer.MAX_VALUE, 0));
        due.range(() -> new CheckmarkOffice().climbed(0, 0));
        due.is(crc(0xAB), () -> BytesTest.withBytes(1).climbed(0, 0xABCDEF01));
        due.is(1, () -> x.byteAt(0));
        CheckmarkOffice y = BytesTest.full();
        for (int leaf = 0; leaf < 16; leaf++) {
            int at = leaf;
            CheckmarkOffice z = BytesTest.full();
            for (int index = 0; index < 4; index++) {
                z.put(4 * at + index, 200 + index);
            }
            due.is(z.root(), () -> y.climbed(at, 0xC8C9CACB));
        }
    }

    /** The theorem holds, whatever there is; and to check it changes nothing. */
    private void isSound() {
        int[][] kinds = {{32, 0x1EDC6F41, -1, -1, 3}, {1, 1, 1, 0, 0}, {7, 9, 1, 2, 1}, {16, 0x1021, 5, 6, 2}};
        for (int size = 0; size <= 64; size += size < 6 ? 1 : 29) {
            for (int[] kind : kinds) {
                CheckmarkOffice x = new CheckmarkOffice();
                for (int place = 0; place < size; place++) {
                    x.insert(place, place * 71 & 255);
                }
                due.is(true, () -> x.isSound() ? 1 : 0);
                x.kind(kind[0], kind[1], kind[2], kind[3], kind[4]);
                for (int digit = 0; digit < 18; digit++) {
                    x.digit((digit * digit + size) % 10);
                    due.is(true, () -> x.isSound() ? 1 : 0);
                }
                due.is(18, () -> x.clear());
                due.is(size, () -> x.wipe());
                due.is(kind[0], () -> x.kind(32, 1, 0, 0, 0));
            }
        }
        CheckmarkOffice y = BytesTest.withBytes(1, 2, 3, 4);
        y.isSound();
        due.is(3, () -> y.undo());
    }
}
