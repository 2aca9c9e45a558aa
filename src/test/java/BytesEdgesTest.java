import java.util.function.Supplier;

/** The edges that the promises 1 to 8 name, a test for each promise; and what a refused call leaves. */
public final class BytesEdgesTest extends Edges {
    public static void main(String[] arguments) {
        new BytesEdgesTest().run();
    }

    private void run() {
        newObject();
        objectsShareNothing();
        type();
        typeUpTo64();
        byteAt();
        put();
        insert();
        drop();
        wipe();
        undo();
        undoOfEachChange();
        undoKeepsTenOfEach();
        undoGoesRound();
        undoKeepsNothingElse();
        due.end();
    }

    /** Promise 1: no bytes, digits and wares; by the terms no kept row, polynomials of 0, and the library's kind. */
    private void newObject() {
        empty.range(x -> x.byteAt(0));
        empty.missing(x -> x.root());
        empty.missing(x -> x.undo());
        empty.missing(x -> x.check('l'));
        empty.range(x -> x.nextWare(0));
        empty.is(0, x -> x.wipe());
        empty.is(0, x -> x.clear());
        for (int shelf = 0; shelf <= 7; shelf++) {
            for (int part = 0; part <= 2; part++) {
                int at = shelf;
                int of = part;
                empty.tells(0, x -> x.bits(at, of));
            }
        }
        empty.is(32, x -> x.kind(1, 1, 0, 0, 0));
        empty.behind(x -> x.ofKind(0), 0x1EDC6F41, x -> x.bits(0, 0));
        for (int many = 0; many <= 64; many++) {
            int size = many;
            bytes(size).tells(Offices.ofBytes(size).librarySum(0, size), x -> x.sum(0, size));
        }
    }

    private void objectsShareNothing() {
        String before = Witness.of(Offices.empty());
        CheckmarkOffice first = Offices.empty();
        CheckmarkOffice second = Offices.full();
        due.compare(before, Witness.of(first));
        due.compare(Witness.of(Offices.full()), Witness.of(second));
    }

    /** Promise 2: many is 1 to 4; the first bytes of the word count, the highest one first. */
    private void type() {
        for (int many : new int[] {0, 5, -1, LEAST, MOST}) {
            all.argument(x -> x.type(0x01020304, many));
        }
        int[] bytes = {0x80, 0, 0xFF, 0x7F};
        for (int many = 1; many <= 4; many++) {
            int so = many;
            empty.is(many, x -> x.type(0x8000FF7F, so));
            some.is(10 + many, x -> x.type(0x8000FF7F, so));
            some.behind(x -> x.type(0x8000FF7F, so), bytes[many - 1], x -> x.byteAt(9 + so));
        }
    }

    /** Promise 2: 64 bytes are allowed, 65 are not; a wrong number of bytes is told ahead of that. */
    private void typeUpTo64() {
        for (int size = 59; size <= 64; size++) {
            Tried row = bytes(size);
            for (int many = 1; many <= 4; many++) {
                int so = many;
                if (size + many <= 64) {
                    row.is(size + many, x -> x.type(0x0A0B0C0D, so));
                } else {
                    row.state(x -> x.type(0x0A0B0C0D, so));
                }
            }
            row.argument(x -> x.type(0x0A0B0C0D, 0));
            row.argument(x -> x.type(0x0A0B0C0D, 5));
        }
        full.state(x -> x.type(0, 1));
        full.state(x -> x.type(0, 4));
    }

    /** Promise 3: the places are 0 to the size less 1. */
    private void byteAt() {
        for (int place : new int[] {-1, 64, 65, LEAST, MOST}) {
            all.range(x -> x.byteAt(place));
        }
        some.tells(0xC3, x -> x.byteAt(0));
        some.tells(0xFF, x -> x.byteAt(9));
        some.range(x -> x.byteAt(10));
        bytes(64).tells(1, x -> x.byteAt(0));
        bytes(64).tells(64, x -> x.byteAt(63));
        bytes(63).range(x -> x.byteAt(63));
        bytes(1).range(x -> x.byteAt(1));
    }

    /** Promise 4: a place and then a byte, 0 to 255. */
    private void put() {
        for (int place : new int[] {-1, 64, LEAST, MOST}) {
            for (int value : new int[] {0, 255, -1, 256, LEAST, MOST}) {
                all.range(x -> x.put(place, value));
            }
        }
        empty.range(x -> x.put(0, 0));
        some.range(x -> x.put(10, 0));
        some.range(x -> x.put(10, 256));
        for (int value : new int[] {-1, 256, LEAST, MOST}) {
            some.argument(x -> x.put(0, value));
            some.argument(x -> x.put(9, value));
            full.argument(x -> x.put(63, value));
        }
        some.is(0xC3, x -> x.put(0, 0));
        some.is(0xFF, x -> x.put(9, 255));
        bytes(64).is(64, x -> x.put(63, 0));
        bytes(1).behind(x -> x.put(0, 255), 255, x -> x.byteAt(0));
        bytes(1).behind(x -> x.put(0, 0), 0, x -> x.byteAt(0));
    }

    /** Promise 5: up to behind the last one; a byte; and only then, whether there are 64. */
    private void insert() {
        for (int place : new int[] {-1, 65, LEAST, MOST}) {
            for (int value : new int[] {0, 256, -1}) {
                all.range(x -> x.insert(place, value));
            }
        }
        empty.range(x -> x.insert(1, 0));
        some.range(x -> x.insert(11, 0));
        some.range(x -> x.insert(11, 256));
        for (int value : new int[] {-1, 256, LEAST, MOST}) {
            all.argument(x -> x.insert(0, value));
            some.argument(x -> x.insert(10, value));
            full.argument(x -> x.insert(64, value));
        }
        for (int place : new int[] {0, 1, 63, 64}) {
            full.state(x -> x.insert(place, 0));
            bytes(64).state(x -> x.insert(place, 255));
        }
        empty.is(1, x -> x.insert(0, 255));
        some.is(11, x -> x.insert(10, 0));
        bytes(63).is(64, x -> x.insert(0, 255));
        bytes(63).is(64, x -> x.insert(63, 255));
        bytes(63).range(x -> x.insert(64, 255));
        bytes(63).behind(x -> x.insert(0, 255), 255, x -> x.byteAt(0));
        bytes(63).behind(x -> x.insert(0, 255), 63, x -> x.byteAt(63));
        bytes(63).behind(x -> x.insert(63, 255), 255, x -> x.byteAt(63));
    }

    /** Promise 6: a place; the last one, the first one, the only one. */
    private void drop() {
        for (int place : new int[] {-1, 64, LEAST, MOST}) {
            all.range(x -> x.drop(place));
        }
        empty.range(x -> x.drop(0));
        some.range(x -> x.drop(10));
        some.is(0xFF, x -> x.drop(9));
        some.is(0xC3, x -> x.drop(0));
        bytes(1).is(1, x -> x.drop(0));
        CheckmarkOffice one = Offices.ofBytes(1);
        one.drop(0);
        due.range(() -> one.byteAt(0));
        due.range(() -> one.drop(0));
        bytes(64).behind(x -> x.drop(0), 64, x -> x.byteAt(62));
        bytes(64).behind(x -> x.drop(63), 63, x -> x.byteAt(62));
        CheckmarkOffice last = Offices.ofBytes(64);
        last.drop(63);
        due.range(() -> last.byteAt(63));
    }

    /** Promise 7: also a row that is empty, and one that is full. */
    private void wipe() {
        empty.is(0, x -> x.wipe());
        some.is(10, x -> x.wipe());
        full.is(64, x -> x.wipe());
        full.behind(x -> x.wipe(), 0, x -> x.wipe());
        CheckmarkOffice wiped = Offices.full();
        wiped.wipe();
        due.range(() -> wiped.byteAt(0));
        due.is(4, () -> wiped.type(0, 4));
        due.is(18, () -> wiped.clear());
        due.is(16, () -> wiped.nextWare(2));
    }

    /** Promise 8: nothing is kept at first, and nothing is left to go back on behind the last one. */
    private void undo() {
        empty.missing(x -> x.undo());
        CheckmarkOffice x = Offices.some();
        due.is(10, () -> x.undo());
        due.is(0x31, () -> x.byteAt(0));
        due.is(8, () -> x.undo());
        due.is(4, () -> x.undo());
        due.is(0, () -> x.undo());
        due.missing(() -> x.undo());
        due.missing(() -> x.undo());
        due.is(4, () -> x.type(7, 4));
        due.is(0, () -> x.undo());
        due.missing(() -> x.undo());
        CheckmarkOffice y = Offices.ofBytes(64);
        y.wipe();
        due.is(64, () -> y.undo());
        for (int place = 0; place < 64; place++) {
            int at = place;
            due.is(at + 1, () -> y.byteAt(at));
        }
        due.state(() -> y.type(0, 1));
    }

    /** The changes that are kept, and the row of 20 bytes that each of them starts from. */
    private static final Tried.Call[] CHANGES = {
        x -> x.type(0x09090909, 4), x -> x.put(3, 99), x -> x.put(3, x.byteAt(3)), x -> x.insert(5, 98),
        x -> x.drop(0), x -> x.wipe(), x -> x.forge(2, 12345), x -> x.forge(2, x.librarySum(0, 20)),
    };

    private void undoOfEachChange() {
        for (Tried.Call change : CHANGES) {
            CheckmarkOffice x = Offices.ofBytes(20);
            change.on(x);
            due.is(20, () -> x.undo());
            for (int place = 0; place < 20; place++) {
                int at = place;
                due.is(at + 1, () -> x.byteAt(at));
            }
            due.range(() -> x.byteAt(20));
            due.is(19, () -> x.undo());
        }
        CheckmarkOffice y = Offices.empty();
        y.wipe();
        y.wipe();
        due.is(0, () -> y.undo());
        due.is(0, () -> y.undo());
        due.missing(() -> y.undo());
    }

    /** By the terms at most ten are kept, the oldest one being forgotten: of each change nine, ten and eleven. */
    private void undoKeepsTenOfEach() {
        Tried.Call[] changes = {
            x -> x.type(0x09090909, 1), x -> x.put(3, x.byteAt(3) + 1), x -> x.insert(5, 98), x -> x.drop(0),
            x -> x.wipe(), x -> x.forge(2, x.librarySum(0, 20) ^ 1),
        };
        for (Tried.Call change : changes) {
            String before = rowOf(Offices.ofBytes(20));
            CheckmarkOffice once = Offices.ofBytes(20);
            change.on(once);
            due.compare(rowOf(Offices.ofBytes(19)), rowTenBack(change, 9));
            due.compare(before, rowTenBack(change, 10));
            due.compare(rowOf(once), rowTenBack(change, 11));
        }
    }

    private String rowTenBack(Tried.Call change, int times) {
        CheckmarkOffice x = Offices.ofBytes(20);
        for (int time = 0; time < times; time++) {
            change.on(x);
        }
        for (int back = 0; back < 10; back++) {
            x.undo();
        }
        String row = rowOf(x);
        due.missing(() -> x.undo());
        due.compare(row, rowOf(x));
        return row;
    }

    private static String rowOf(CheckmarkOffice office) {
        StringBuilder row = new StringBuilder();
        for (int place = 0; place < 65; place++) {
            int at = place;
            row.append(Due.answerOf(() -> office.byteAt(at))).append(' ');
        }
        return row.toString();
    }

    /** Ten stay ten, however many came ahead of them, and also when some were gone back on in between. */
    private void undoGoesRound() {
        for (int ahead = 0; ahead <= 23; ahead++) {
            for (int gone = 0; gone <= Math.min(ahead, 10); gone++) {
                CheckmarkOffice x = Offices.ofBytes(ahead);
                for (int back = 0; back < gone; back++) {
                    x.undo();
                }
                for (int more = 0; more < 6; more++) {
                    x.type(0x7F000000, 1);
                }
                int size = ahead - gone + 6;
                int kept = Math.min(Math.min(ahead, 10) - gone + 6, 10);
                for (int back = 1; back <= kept; back++) {
                    int left = size - back;
                    due.is(left, () -> x.undo());
                }
                due.missing(() -> x.undo());
                due.range(() -> x.byteAt(size - kept));
                due.is(size - kept, () -> x.wipe());
            }
        }
    }

    /** What does not change the row keeps nothing, also where it changes something else. */
    private void undoKeepsNothingElse() {
        Supplier<CheckmarkOffice> maker = () -> Offices.ofBytes(7);
        Tried.Call[] others = {
            x -> x.kind(8, 7, 0, 0, 0), x -> x.polynomial(0, 19, 0), x -> x.ofKind(1), x -> x.join(2, 0, 1, false),
            x -> x.polynomial(0, 1, 0) + x.divide(2, 3, 0, 0), x -> x.common(1, 0, 0), x -> x.digit(3),
            x -> x.clear(), x -> x.digit(3) + x.ware(), x -> x.best(2, 2), x -> x.isSound() ? 1 : 0,
        };
        for (Tried.Call other : others) {
            CheckmarkOffice x = maker.get();
            other.on(x);
            due.is(6, () -> x.undo());
            CheckmarkOffice y = Offices.empty();
            other.on(y);
            due.missing(() -> y.undo());
        }
    }
}
