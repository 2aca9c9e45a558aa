/** The edges that the promises 35 to 44 name, a test for each promise; and what a refused call leaves. */
public final class ChunksAndTreeEdgesTest extends Edges {
    private static final int[] NO_WINDOWS = {0, 9, -1, LEAST, MOST};
    private static final int[] NO_STEPS = {1, 65, 0, -1, -2, LEAST, MOST};
    private static final int[] NO_BYTES = {-1, 256, LEAST, MOST};

    public static void main(String[] arguments) {
        new ChunksAndTreeEdgesTest().run();
    }

    private void run() {
        fletcherRemainders();
        adlerRemainders();
        rollingRefuses();
        rollingOfWholeWindows();
        rollingRemainders();
        chunkNumbers();
        chunksOfFewBytes();
        chunkAtTheEndOfTheRow();
        chunkEnd();
        staysRefuses();
        staysAtEachPlace();
        staysOf64Bytes();
        staysWithTheLastOf65Chunks();
        chunksAreMadeAnew();
        staysNoOneTwice();
        root();
        besideRefuses();
        besideOfEachSize();
        sumsOf0Beside();
        climbedRefuses();
        climbedOfEachSize();
        isSoundOfEachSize();
        isSoundOfEachKindAndDigits();
        due.end();
    }

    private Tried row(int... values) {
        return new Tried(due, () -> BytesTest.withBytes(values));
    }

    private Tried same(int value, int many) {
        int[] values = new int[many];
        java.util.Arrays.fill(values, value);
        return row(values);
    }

    /** Promise 35: no bytes; sums that are 254, 255 and 256. */
    private void fletcherRemainders() {
        empty.tells(0, x -> x.fletcher());
        row(0).tells(0, x -> x.fletcher());
        row(254).tells(254 * 257, x -> x.fletcher());
        row(255).tells(0, x -> x.fletcher());
        row(254, 1).tells(256 * 254, x -> x.fletcher());
        row(254, 2).tells(1, x -> x.fletcher());
        row(127, 0).tells(256 * 254 + 127, x -> x.fletcher());
        row(127, 1).tells(128, x -> x.fletcher());
        row(127, 2).tells(256 + 129, x -> x.fletcher());
        same(255, 64).tells(0, x -> x.fletcher());
        same(254, 64).tells(256 * (2080 * 254 % 255) + 64 * 254 % 255, x -> x.fletcher());
        full.tells(modelOfBytes(Offices.full(), 64).fletcher(), x -> x.fletcher());
        some.tells(modelOfBytes(Offices.some(), 10).fletcher(), x -> x.fletcher());
    }

    /** Promise 36: no bytes are 1; a second sum of 65520, 65521 and 65522; an answer above 2147483647. */
    private void adlerRemainders() {
        empty.tells(1, x -> x.adler());
        row(0).tells(65537, x -> x.adler());
        row(255).tells(65536L * 256 + 256, x -> x.adler());
        same(255, 64).tells(65536L * ((64 + 255 * 2080) % 65521) + 1 + 64 * 255, x -> x.adler());
        for (int more = 0; more <= 2; more++) {
            int[] values = new int[23];
            java.util.Arrays.fill(values, 255);
            values[0] = 43;
            values[22] = 248 + more;
            long first = 1 + 43 + 21 * 255 + 248 + more;
            row(values).tells(65536L * ((65520 + more) % 65521) + first, x -> x.adler());
        }
        full.tells(modelOfBytes(Offices.full(), 64).adler(), x -> x.adler());
        some.tells(modelOfBytes(Offices.some(), 10).adler(), x -> x.adler());
    }

    /** Promise 37: a place; then a window of 1 to 8; then whether there are so many bytes. */
    private void rollingRefuses() {
        for (int place : new int[] {-1, 64, LEAST, MOST}) {
            for (int window : new int[] {1, 8, 0, 9}) {
                all.range(x -> x.rolling(place, window));
            }
        }
        empty.range(x -> x.rolling(0, 1));
        some.range(x -> x.rolling(10, 1));
        some.range(x -> x.rolling(10, 9));
        for (int window : NO_WINDOWS) {
            some.argument(x -> x.rolling(0, window));
            some.argument(x -> x.rolling(9, window));
            full.argument(x -> x.rolling(63, window));
        }
        for (int window = 2; window <= 8; window++) {
            int of = window;
            for (int place = 0; place < window - 1; place++) {
                int at = place;
                some.missing(x -> x.rolling(at, of));
            }
        }
    }

    /** Promise 37: the first place at which a window ends is that of its size, less 1. */
    private void rollingOfWholeWindows() {
        Model model = modelOfBytes(Offices.full(), 64);
        for (int window = 1; window <= 8; window++) {
            int of = window;
            for (int place : new int[] {window - 1, window, 62, 63}) {
                full.tells(model.rolling(place, window), x -> x.rolling(place, of));
            }
            Tried just = bytes(of);
            just.tells(modelOfBytes(Offices.ofBytes(of), of).rolling(of - 1, of), x -> x.rolling(of - 1, of));
            if (window < 8) {
                just.missing(x -> x.rolling(of - 1, of + 1));
            }
        }
    }

    /** By the terms the remainder by 65521 is told: sums of 65520, 65521 and 65522; and the greatest one. */
    private void rollingRemainders() {
        row(2, 6, 5, 17).tells(65520, x -> x.rolling(3, 4));
        row(2, 6, 5, 18).tells(0, x -> x.rolling(3, 4));
        row(2, 6, 5, 19).tells(1, x -> x.rolling(3, 4));
        row(68, 5, 17).tells(65520, x -> x.rolling(2, 3));
        row(68, 5, 18).tells(0, x -> x.rolling(2, 3));
        same(0, 8).tells(0, x -> x.rolling(7, 8));
        long greatest = 0;
        for (int times = 0; times < 8; times++) {
            greatest = greatest * 31 + 255;
        }
        same(255, 8).tells(greatest % 65521, x -> x.rolling(7, 8));
    }

    /** Promises 38 and 39: windows of 1 to 8 and steps of 2 to 64, ahead of whether there is such a chunk. */
    private void chunkNumbers() {
        for (int window : NO_WINDOWS) {
            for (int step : new int[] {2, 64, 1, 65}) {
                all.argument(x -> x.chunks(window, step));
                all.argument(x -> x.chunkEnd(window, step, 0));
                all.argument(x -> x.chunkEnd(window, step, -1));
            }
        }
        for (int step : NO_STEPS) {
            for (int window : new int[] {1, 8}) {
                all.argument(x -> x.chunks(window, step));
                all.argument(x -> x.chunkEnd(window, step, 0));
                all.argument(x -> x.chunkEnd(window, step, 65));
            }
        }
        Model model = modelOfBytes(Offices.full(), 64);
        for (int window = 1; window <= 8; window++) {
            for (int step : new int[] {2, 3, 32, 63, 64}) {
                int of = window;
                full.tells(model.chunks(window, step), x -> x.chunks(of, step));
            }
        }
    }

    /** By the terms a row without bytes has none; one that is shorter than the window has one. */
    private void chunksOfFewBytes() {
        for (int window = 1; window <= 8; window++) {
            int of = window;
            empty.tells(0, x -> x.chunks(of, 2));
            empty.range(x -> x.chunkEnd(of, 2, 0));
            for (int many = 1; many <= window; many++) {
                int size = many;
                same(0, size).tells(1, x -> x.chunks(of, 2));
                same(0, size).tells(size, x -> x.chunkEnd(of, 2, 0));
                same(0, size).range(x -> x.chunkEnd(of, 2, 1));
            }
            same(0, window + 1).tells(2, x -> x.chunks(of, 2));
            same(0, window + 1).tells(of, x -> x.chunkEnd(of, 2, 0));
            same(0, window + 1).tells(of + 1, x -> x.chunkEnd(of, 2, 1));
            same(0, 64).tells(65 - of, x -> x.chunks(of, 64));
        }
    }

    /** By the terms the row's end ends a chunk, which is there once, also if the sum there does so too. */
    private void chunkAtTheEndOfTheRow() {
        row(1, 64).tells(1, x -> x.chunks(1, 64));
        row(64, 1).tells(2, x -> x.chunks(1, 64));
        row(64, 64).tells(2, x -> x.chunks(1, 64));
        row(1, 1).tells(1, x -> x.chunks(1, 64));
        row(63, 65, 2).tells(1, x -> x.chunks(1, 64));
        row(3, 5, 2).tells(1, x -> x.chunks(1, 2));
        row(3, 4, 5).tells(2, x -> x.chunks(1, 2));
        row(128, 1).tells(1, x -> x.chunkEnd(1, 64, 0));
        row(2, 6, 5, 18, 1).tells(2, x -> x.chunks(4, 64));
        row(2, 6, 5, 18, 1).tells(4, x -> x.chunkEnd(4, 64, 0));
    }

    /** Promise 39: the chunks are numbered from 0 to their number less 1. */
    private void chunkEnd() {
        for (int index : new int[] {-1, 64, 65, LEAST, MOST}) {
            all.range(x -> x.chunkEnd(1, 2, index));
        }
        Tried most = same(0, 64);
        for (int index = 0; index < 64; index++) {
            int at = index;
            most.tells(at + 1, x -> x.chunkEnd(1, 64, at));
        }
        most.range(x -> x.chunkEnd(1, 64, 64));
        same(1, 64).tells(64, x -> x.chunkEnd(1, 64, 0));
        same(1, 64).range(x -> x.chunkEnd(1, 64, 1));
        int count = Offices.some().chunks(2, 3);
        some.tells(10, x -> x.chunkEnd(2, 3, count - 1));
        some.range(x -> x.chunkEnd(2, 3, count));
    }

    /** Promise 40: the window, the step and the byte; then the place, up to behind the last one. */
    private void staysRefuses() {
        for (int place : new int[] {0, -1, 65, 66}) {
            for (int window : NO_WINDOWS) {
                all.argument(x -> x.stays(window, 2, place, 0));
            }
            for (int step : NO_STEPS) {
                all.argument(x -> x.stays(1, step, place, 0));
            }
            for (int value : NO_BYTES) {
                all.argument(x -> x.stays(8, 64, place, value));
            }
        }
        for (int place : new int[] {-1, 65, LEAST, MOST}) {
            all.range(x -> x.stays(1, 2, place, 0));
            all.range(x -> x.stays(8, 64, place, 255));
        }
        empty.range(x -> x.stays(1, 2, 1, 0));
        some.range(x -> x.stays(1, 2, 11, 0));
        some.argument(x -> x.stays(1, 2, 11, 256));
    }

    /** Promise 40: nothing is put in by it. */
    private void staysAtEachPlace() {
        empty.tells(0, x -> x.stays(1, 2, 0, 0));
        empty.tells(0, x -> x.stays(8, 64, 0, 255));
        Model model = modelOfBytes(Offices.some(), 10);
        for (int place = 0; place <= 10; place++) {
            for (int value : new int[] {0, 1, 254, 255}) {
                for (int window : new int[] {1, 2, 8}) {
                    int at = place;
                    some.tells(model.stays(window, 2, at, value), x -> x.stays(window, 2, at, value));
                    some.tells(model.stays(window, 64, at, value), x -> x.stays(window, 64, at, value));
                }
            }
        }
    }

    /** Promise 40: also one of 64 bytes, at its beginning, within it, and behind it. */
    private void staysOf64Bytes() {
        Model model = modelOfBytes(Offices.full(), 64);
        for (int place : new int[] {0, 1, 31, 63, 64}) {
            for (int value : new int[] {0, 64, 255}) {
                for (int window : new int[] {1, 3, 8}) {
                    full.tells(model.stays(window, 2, place, value), x -> x.stays(window, 2, place, value));
                    full.tells(model.stays(window, 5, place, value), x -> x.stays(window, 5, place, value));
                }
            }
            full.range(x -> x.stays(1, 2, 65, 0));
        }
        for (int place = 0; place <= 64; place++) {
            int at = place;
            same(0, 64).tells(64, x -> x.stays(1, 64, at, 0));
            same(0, 64).tells(at == 64 ? 64 : 63, x -> x.stays(1, 64, at, 1));
            same(1, 64).tells(0, x -> x.stays(1, 64, at, 1));
        }
    }

    /** Promise 40: the row with the byte has 65 chunks, and the last one of them is like one of the row. */
    private void staysWithTheLastOf65Chunks() {
        int[] values = new int[64];
        values[63] = 2;
        row(values).tells(64, x -> x.stays(1, 2, 0, 4));
        row(values).tells(64, x -> x.stays(1, 2, 64, 4));
        row(values).tells(64, x -> x.stays(1, 2, 63, 2));
        row(values).tells(63, x -> x.stays(1, 2, 63, 1));
        values[63] = 3;
        row(values).tells(64, x -> x.stays(1, 2, 0, 4));
        row(values).tells(63, x -> x.stays(1, 2, 64, 4));
    }

    /** Chunks that were made for another call do not count in the next one. */
    private void chunksAreMadeAnew() {
        CheckmarkOffice x = BytesTest.withBytes(new int[64]);
        due.is(64, () -> x.stays(1, 2, 0, 0));
        due.is(57, () -> x.chunks(8, 2));
        due.is(64, () -> x.chunks(1, 2));
        x.put(0, 1);
        due.is(62, () -> x.stays(1, 2, 0, 1));
        x.wipe();
        due.is(0, () -> x.chunks(1, 2));
        due.is(0, () -> x.stays(1, 2, 0, 0));
        due.range(() -> x.chunkEnd(1, 2, 0));
        x.type(0, 1);
        due.is(1, () -> x.stays(1, 2, 0, 0));
        due.is(1, () -> x.stays(1, 2, 1, 2));
        due.range(() -> x.chunkEnd(1, 2, 1));
    }

    /** Promise 40: each chunk stays with one of the others, no one twice, also when there are fewer like ones. */
    private void staysNoOneTwice() {
        row(1, 2, 1, 2).tells(1, x -> x.stays(1, 2, 0, 3));
        row(1, 2, 1, 2).tells(1, x -> x.stays(1, 2, 3, 1));
        row(1, 2, 1, 2).tells(2, x -> x.stays(1, 2, 4, 2));
        row(1, 2, 1, 2).tells(2, x -> x.stays(1, 2, 4, 1));
        row(1, 2, 1, 2).tells(2, x -> x.stays(1, 2, 2, 2));
        row(2, 2).tells(2, x -> x.stays(1, 2, 1, 2));
        row(2, 2).tells(1, x -> x.stays(1, 2, 1, 1));
        row(2, 1, 2).tells(1, x -> x.stays(1, 2, 1, 1));
        row(1, 2, 2, 1).tells(3, x -> x.stays(1, 2, 0, 2));
    }

    /** Promise 41: a row without bytes has no root; one of up to 4 bytes has its leaf as the root. */
    private void root() {
        empty.missing(x -> x.root());
        for (int size = 1; size <= 64; size++) {
            int of = size;
            Tried bytes = bytes(of);
            bytes.tells(modelOfBytes(Offices.ofBytes(of), of).root(), x -> x.root());
            if (size <= 4) {
                bytes.tells(Offices.ofBytes(of).librarySum(0, of), x -> x.root());
            }
        }
        CheckmarkOffice x = Offices.full();
        x.wipe();
        due.missing(() -> x.root());
    }

    /** Promise 42: a leaf, and then a step; a tree of one leaf has no steps. */
    private void besideRefuses() {
        for (int leaf : new int[] {-1, 16, 17, LEAST, MOST}) {
            for (int step : new int[] {0, -1, 4}) {
                all.range(x -> x.beside(leaf, step));
            }
        }
        empty.range(x -> x.beside(0, 0));
        some.range(x -> x.beside(3, 0));
        some.range(x -> x.beside(3, -1));
        for (int size = 1; size <= 4; size++) {
            int of = size;
            Tried bytes = bytes(of);
            bytes.missing(x -> x.beside(0, 0));
            bytes.range(x -> x.beside(1, 0));
        }
        for (int step : new int[] {-1, 4, 5, 32, LEAST, MOST}) {
            some.missing(x -> x.beside(0, step));
            some.missing(x -> x.beside(2, step));
            full.missing(x -> x.beside(0, step));
            full.missing(x -> x.beside(15, step));
        }
    }

    /** Promise 42: of each size each leaf, each step, and one step and one leaf more. */
    private void besideOfEachSize() {
        for (int size = 1; size <= 64; size++) {
            CheckmarkOffice x = Offices.ofBytes(size);
            Model model = modelOfBytes(x, size);
            for (int leaf = -1; leaf <= (size + 3) / 4; leaf++) {
                for (int step = -1; step <= 4; step++) {
                    int of = leaf;
                    int at = step;
                    due.compare(Due.answerOf(() -> model.beside(of, at)), Due.answerOf(() -> x.beside(of, at)));
                }
            }
        }
        bytes(9).tells(-1, x -> x.beside(2, 0));
        bytes(36).tells(-1, x -> x.beside(8, 0));
        bytes(36).tells(-1, x -> x.beside(8, 2));
        bytes(36).missing(x -> x.beside(8, 4));
    }

    /** Promises 42 and 43: 0 is a sum like others, beside a leaf and above it; -1 alone tells of none. */
    private void sumsOf0Beside() {
        CheckmarkOffice x = Offices.ofBytes(8);
        CheckmarkOffice leaf = Offices.ofBytes(4);
        x.type(leaf.forge(0, 0), 4);
        x.type(0x0A0B0C0D, 4);
        due.is(0, () -> x.beside(3, 0));
        Model model = modelOfBytes(x, 16);
        due.is(model.climbed(3, 77), () -> x.climbed(3, 77));
        due.is(model.root(), () -> x.root());
        CheckmarkOffice sums = Offices.empty();
        sums.type((int) Offices.ofBytes(4).librarySum(0, 4), 4);
        sums.type(0, 4);
        long second = sums.forge(4, 0) & 0xFFFFFFFFL;
        CheckmarkOffice y = Offices.ofBytes(4);
        y.type(Offices.ofBytes(4).forge(0, second), 4);
        due.is(0, () -> y.root());
        y.type(0x0A0B0C0D, 4);
        due.is(0, () -> y.beside(2, 1));
        due.is(modelOfBytes(y, 12).climbed(2, 77), () -> y.climbed(2, 77));
    }

    /** Promise 43. */
    private void climbedRefuses() {
        for (int leaf : new int[] {-1, 16, 17, LEAST, MOST}) {
            all.range(x -> x.climbed(leaf, 0));
        }
        empty.range(x -> x.climbed(0, 0));
        some.range(x -> x.climbed(3, 0));
        bytes(4).range(x -> x.climbed(1, 0));
        bytes(5).range(x -> x.climbed(2, 0));
        bytes(60).range(x -> x.climbed(15, 0));
    }

    /** Promise 43: as many of the first bytes count as the leaf has, 1 to 4; nothing is put there. */
    private void climbedOfEachSize() {
        for (int size = 1; size <= 64; size++) {
            int of = size;
            Tried bytes = bytes(of);
            Model model = modelOfBytes(Offices.ofBytes(of), of);
            int last = (size - 1) / 4;
            for (int word : new int[] {0, -1, LEAST, MOST, 0x80FF017F}) {
                bytes.tells(model.climbed(0, word), x -> x.climbed(0, word));
                bytes.tells(model.climbed(last, word), x -> x.climbed(last, word));
            }
            bytes.range(x -> x.climbed(last + 1, 0));
            bytes.range(x -> x.climbed(-1, 0));
        }
    }

    private static long isSound(CheckmarkOffice office) {
        return office.isSound() ? 1 : 0;
    }

    /** Promise 44: no bytes, fewer than four, four, and 64; it changes nothing. */
    private void isSoundOfEachSize() {
        all.tells(1, x -> isSound(x));
        for (int size = 0; size <= 64; size++) {
            int of = size;
            bytes(of).tells(1, x -> isSound(x));
        }
    }

    /** Promise 44: kinds of each width, and no digits, one and 18. */
    private void isSoundOfEachKindAndDigits() {
        for (int width = 1; width <= 32; width++) {
            int of = width;
            int top = width == 32 ? -1 : (1 << width) - 1;
            for (int mirrors = 0; mirrors <= 3; mirrors++) {
                int so = mirrors;
                some.behind(x -> x.kind(of, top, top, 1, so), 1, x -> isSound(x));
                full.behind(x -> x.kind(of, 1, 1, top, so), 1, x -> isSound(x));
            }
        }
        for (int digit = 0; digit <= 9; digit++) {
            for (int many : new int[] {1, 2, 17, 18}) {
                String digits = String.valueOf((char) ('0' + digit)).repeat(many);
                new Tried(due, () -> Offices.ofDigits(digits)).tells(1, x -> isSound(x));
            }
        }
    }
}
