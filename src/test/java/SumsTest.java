/** Promises 9 to 15: the library's sum, and sums by any told kind. */
public final class SumsTest {
    private final Due due = new Due();

    public static void main(String[] arguments) {
        new SumsTest().run();
    }

    private void run() {
        librarySum();
        knownKinds();
        kindIsTold();
        kindIsRefused();
        sum();
        joined();
        changed();
        zeros();
        forge();
        forgeEdges();
        due.end();
    }

    /** The bytes '1' to '9', for which sums of many kinds are known. */
    private static CheckmarkOffice nine() {
        CheckmarkOffice office = new CheckmarkOffice();
        office.type(0x31323334, 4);
        office.type(0x35363738, 4);
        office.type(0x39000000, 1);
        return office;
    }

    private void librarySum() {
        CheckmarkOffice x = nine();
        due.is(0xE3069283L, () -> x.librarySum(0, 9));
        due.is(0, () -> x.librarySum(0, 0));
        due.is(0, () -> x.librarySum(9, 9));
        due.is(crc(0x34, 0x35), () -> x.librarySum(3, 5));
        due.range(() -> x.librarySum(0, 10));
        due.range(() -> x.librarySum(10, 10));
        due.range(() -> x.librarySum(-1, 3));
        due.range(() -> x.librarySum(5, 4));
        due.range(() -> x.librarySum(Integer.MIN_VALUE, Integer.MAX_VALUE));
        x.kind(8, 7, 0, 0, 0);
        due.is(0xE3069283L, () -> x.librarySum(0, 9));
        CheckmarkOffice y = new CheckmarkOffice();
        for (int word = 0; word < 8; word++) {
            y.type(0, 4);
        }
        due.is(0x8A9136AAL, () -> y.librarySum(0, 32));
    }

    private static long crc(int... values) {
        java.util.zip.CRC32C crc = new java.util.zip.CRC32C();
        for (int value : values) {
            crc.update(value);
        }
        return crc.getValue();
    }

    /** Kinds with the sums that catalogues of them tell for the nine bytes. */
    private void knownKinds() {
        int[][] kinds = {
            {3, 0x3, 0, 7, 0}, {4, 0x3, 0, 0, 3}, {5, 0x05, 0x1F, 0x1F, 3}, {5, 0x09, 0x09, 0, 0},
            {6, 0x27, 0x3F, 0, 0}, {7, 0x09, 0, 0, 0}, {8, 0x07, 0, 0, 0}, {8, 0x31, 0, 0, 3},
            {10, 0x233, 0, 0, 0}, {11, 0x385, 0x1A, 0, 0}, {12, 0x80F, 0, 0, 2}, {14, 0x805, 0, 0, 3},
            {15, 0x4599, 0, 0, 0}, {16, 0x1021, 0xFFFF, 0, 0}, {16, 0x8005, 0, 0, 3}, {21, 0x102899, 0, 0, 0},
            {24, 0x864CFB, 0xB704CE, 0, 0}, {30, 0x2030B9C7, 0x3FFFFFFF, 0x3FFFFFFF, 0},
            {31, 0x04C11DB7, 0x7FFFFFFF, 0x7FFFFFFF, 0}, {32, 0x04C11DB7, -1, -1, 3}, {32, 0x04C11DB7, -1, -1, 0},
            {32, 0xA833982B, -1, -1, 3}, {32, 0x814141AB, 0, 0, 0},
        };
        long[] sums = {
            0x4, 0x7, 0x19, 0x00, 0x0D, 0x75, 0xF4, 0xA1, 0x199, 0x5A3, 0xDAF, 0x082D, 0x059E, 0x29B1, 0xBB3D,
            0x0ED841, 0x21CF02, 0x04C34ABF, 0x0CE9E46C, 0xCBF43926L, 0xFC891918L, 0x87315576L, 0x3010BF7FL,
        };
        for (int index = 0; index < kinds.length; index++) {
            int[] kind = kinds[index];
            CheckmarkOffice x = nine();
            x.kind(kind[0], kind[1], kind[2], kind[3], kind[4]);
            long want = sums[index];
            due.is(want, () -> x.sum(0, 9));
            for (int place = 0; place <= 9; place++) {
                int at = place;
                due.is(want, () -> x.joined(at));
            }
            due.is(true, () -> x.isSound() ? 1 : 0);
        }
    }

    private void kindIsTold() {
        CheckmarkOffice x = nine();
        due.is(32, () -> x.kind(16, 0x1021, 0xFFFF, 0, 0));
        due.is(16, () -> x.kind(1, 1, 1, 1, 3));
        due.is(1, () -> x.kind(32, -1, Integer.MIN_VALUE, -1, 1));
        due.is(32, () -> x.kind(31, Integer.MAX_VALUE, Integer.MAX_VALUE, 0, 2));
        due.is(31, () -> x.kind(8, 0x31, 0, 0, 1));
        due.is(0xA1, () -> mirroredByte(x.sum(0, 9)));
        due.is(8, () -> x.kind(1, 1, 0, 0, 0));
        due.is(1, () -> x.sum(0, 1));
        due.is(0, () -> x.sum(2, 3));
        x.kind(1, 1, 0, 1, 0);
        due.is(0, () -> x.sum(0, 1));
    }

    private static long mirroredByte(long value) {
        return Integer.reverse((int) value) >>> 24;
    }

    private void kindIsRefused() {
        CheckmarkOffice x = nine();
        x.kind(16, 0x1021, 0xFFFF, 0, 0);
        int[][] refused = {
            {0, 1, 0, 0, 0}, {33, 1, 0, 0, 0}, {-1, 1, 0, 0, 0}, {Integer.MIN_VALUE, 1, 0, 0, 0}, {64, 1, 0, 0, 0},
            {8, 6, 0, 0, 0}, {8, 0, 0, 0, 0}, {32, -2, 0, 0, 0}, {8, 0x107, 0, 0, 0}, {31, -1, 0, 0, 0},
            {1, 3, 0, 0, 0}, {8, 7, 256, 0, 0}, {8, 7, -1, 0, 0}, {8, 7, 0, 256, 0}, {8, 7, 0, -1, 0},
            {31, 1, Integer.MIN_VALUE, 0, 0}, {31, 1, 0, Integer.MIN_VALUE, 0}, {8, 7, 0, 0, 4}, {8, 7, 0, 0, -1},
        };
        for (int[] kind : refused) {
            due.argument(() -> x.kind(kind[0], kind[1], kind[2], kind[3], kind[4]));
        }
        due.is(0x29B1, () -> x.sum(0, 9));
        due.is(16, () -> x.kind(8, 255, 255, 255, 3));
    }

    private void sum() {
        CheckmarkOffice x = nine();
        due.is(0xE3069283L, () -> x.sum(0, 9));
        x.kind(16, 0x1021, 0xFFFF, 0x0001, 0);
        due.is(0xFFFE, () -> x.sum(0, 0));
        due.is(0xFFFE, () -> x.sum(9, 9));
        x.kind(16, 0x1021, 0x8001, 0x0002, 0);
        due.is(0x8003, () -> x.sum(4, 4));
        x.kind(12, 0x80F, 0x801, 0x002, 2);
        due.is(0x803, () -> x.sum(4, 4));
        x.kind(12, 0x80F, 0x003, 0x002, 2);
        due.is(0xC02, () -> x.sum(4, 4));
        x.kind(32, 1, -1, 0, 0);
        due.is(0xFFFFFFFFL, () -> x.sum(1, 1));
        due.range(() -> x.sum(0, 10));
        due.range(() -> x.sum(10, 10));
        due.range(() -> x.sum(-1, 0));
        due.range(() -> x.sum(3, 2));
        due.range(() -> x.sum(Integer.MIN_VALUE, 2));
    }

    private void joined() {
        CheckmarkOffice x = nine();
        for (int place = 0; place <= 9; place++) {
            int at = place;
            due.is(0xE3069283L, () -> x.joined(at));
        }
        due.range(() -> x.joined(10));
        due.range(() -> x.joined(-1));
        due.range(() -> x.joined(Integer.MAX_VALUE));
        CheckmarkOffice y = new CheckmarkOffice();
        y.kind(8, 7, 5, 1, 0);
        due.is(4, () -> y.joined(0));
        due.range(() -> y.joined(1));
    }

    private void changed() {
        CheckmarkOffice x = nine();
        int[][] kinds = {{32, 0x1EDC6F41, -1, -1, 3}, {16, 0x1021, 7, 9, 0}, {5, 5, 31, 31, 1}, {1, 1, 0, 1, 2}};
        for (int[] kind : kinds) {
            x.kind(kind[0], kind[1], kind[2], kind[3], kind[4]);
            for (int place = 0; place < 9; place++) {
                int at = place;
                CheckmarkOffice y = nine();
                y.kind(kind[0], kind[1], kind[2], kind[3], kind[4]);
                y.put(at, 17 * at);
                due.is(y.sum(0, 9), () -> x.changed(at, 17 * at));
            }
            due.is(x.sum(0, 9), () -> x.changed(3, 0x34));
        }
        due.is(0x34, () -> x.byteAt(3));
        due.range(() -> x.changed(9, 1));
        due.range(() -> x.changed(-1, 1));
        due.range(() -> x.changed(9, 256));
        due.argument(() -> x.changed(8, 256));
        due.argument(() -> x.changed(8, -1));
        due.range(() -> new CheckmarkOffice().changed(0, 0));
    }

    private void zeros() {
        CheckmarkOffice x = nine();
        for (int[] kind : new int[][] {{32, 0x1EDC6F41, -1, -1, 3}, {16, 0x1021, 7, 9, 0}, {3, 3, 1, 2, 2}}) {
            x.kind(kind[0], kind[1], kind[2], kind[3], kind[4]);
            CheckmarkOffice y = nine();
            y.kind(kind[0], kind[1], kind[2], kind[3], kind[4]);
            due.is(x.sum(0, 9), () -> x.zeros(0));
            for (int many = 1; many <= 55; many++) {
                int so = many;
                y.type(0, 1);
                due.is(y.sum(0, 9 + so), () -> x.zeros(so));
            }
        }
        due.argument(() -> x.zeros(-1));
        due.argument(() -> x.zeros(1000001));
        due.argument(() -> x.zeros(Integer.MIN_VALUE));
        due.range(() -> x.byteAt(9));
        CheckmarkOffice z = new CheckmarkOffice();
        byte[] million = new byte[1000000];
        java.util.zip.CRC32C crc = new java.util.zip.CRC32C();
        crc.update(million);
        due.is(crc.getValue(), () -> z.zeros(1000000));
        due.is(0, () -> z.zeros(0));
    }

    private void forge() {
        long[] wanted = {0, 1, 0xFFFFFFFFL, 0x80000000L, 0xE3069283L, 123456789};
        for (int place = 0; place <= 5; place++) {
            for (long sum : wanted) {
                CheckmarkOffice x = nine();
                int at = place;
                x.kind(8, 7, 1, 1, 1);
                int word = x.forge(at, sum);
                due.is(sum, () -> x.librarySum(0, 9));
                for (int index = 0; index < 9; index++) {
                    int of = index;
                    boolean isForged = of >= at && of < at + 4;
                    due.is(isForged ? word >>> (24 - 8 * (of - at)) & 255 : 0x31 + of, () -> x.byteAt(of));
                }
                due.is(9, () -> x.undo());
                due.is(0xE3069283L, () -> x.librarySum(0, 9));
            }
        }
        CheckmarkOffice x = nine();
        due.is(0x33343536, () -> x.forge(2, 0xE3069283L));
        due.is(9, () -> x.undo());
        due.is(8, () -> x.undo());
    }

    private void forgeEdges() {
        CheckmarkOffice x = nine();
        due.range(() -> x.forge(6, 0));
        due.range(() -> x.forge(-1, 0));
        due.range(() -> x.forge(Integer.MAX_VALUE, 0));
        due.range(() -> x.forge(Integer.MIN_VALUE, 0));
        due.range(() -> x.forge(6, -1));
        due.argument(() -> x.forge(5, -1));
        due.argument(() -> x.forge(5, 4294967296L));
        due.argument(() -> x.forge(0, Long.MIN_VALUE));
        due.argument(() -> x.forge(0, Long.MAX_VALUE));
        due.is(0xE3069283L, () -> x.librarySum(0, 9));
        due.is(8, () -> x.undo());
        due.range(() -> BytesTest.withBytes(1, 2, 3).forge(0, 0));
        due.range(() -> new CheckmarkOffice().forge(0, 0));
        CheckmarkOffice y = BytesTest.full();
        y.forge(60, 5);
        due.is(5, () -> y.librarySum(0, 64));
        y.forge(0, 6);
        due.is(6, () -> y.librarySum(0, 64));
        due.range(() -> y.forge(61, 6));
    }
}
