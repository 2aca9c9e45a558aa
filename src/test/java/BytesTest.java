/** Promises 1 to 8: a new object, and the row of bytes. */
public final class BytesTest {
    private final Due due = new Due();

    public static void main(String[] arguments) {
        new BytesTest().run();
    }

    private void run() {
        newObject();
        type();
        byteAt();
        put();
        insert();
        drop();
        wipe();
        undo();
        undoKeepsTen();
        throwingKeepsNothing();
        due.end();
    }

    static CheckmarkOffice withBytes(int... values) {
        CheckmarkOffice office = new CheckmarkOffice();
        for (int value : values) {
            office.type(value << 24, 1);
        }
        return office;
    }

    static CheckmarkOffice full() {
        CheckmarkOffice office = new CheckmarkOffice();
        for (int word = 0; word < 16; word++) {
            office.type(word * 0x04040404 + 0x00010203, 4);
        }
        return office;
    }

    private void row(CheckmarkOffice office, int... values) {
        for (int place = 0; place < values.length; place++) {
            int at = place;
            due.is(values[place], () -> office.byteAt(at));
        }
        due.range(() -> office.byteAt(values.length));
    }

    private void newObject() {
        CheckmarkOffice x = new CheckmarkOffice();
        row(x);
        due.missing(() -> x.undo());
        due.missing(() -> x.check('l'));
        due.missing(() -> x.ware());
        due.range(() -> x.nextWare(0));
        due.missing(() -> x.root());
        due.is(0, () -> x.clear());
        due.is(0, () -> x.sum(0, 0));
        due.is(0, () -> x.librarySum(0, 0));
        for (int shelf = 0; shelf < 8; shelf++) {
            int at = shelf;
            for (int part = 0; part < 3; part++) {
                int of = part;
                due.is(0, () -> x.bits(at, of));
            }
            due.arithmetic(() -> x.isSeen(at) ? 1 : 0);
        }
        due.is(32, () -> x.ofKind(0));
        due.is(0x1EDC6F41, () -> x.bits(0, 0));
        due.is(1, () -> x.bits(0, 1));
        due.is(true, () -> x.isSound() ? 1 : 0);
        due.is(0, () -> x.wipe());
        CheckmarkOffice y = new CheckmarkOffice();
        row(y);
    }

    private void type() {
        CheckmarkOffice x = new CheckmarkOffice();
        due.is(4, () -> x.type(0xFF010280, 4));
        due.is(5, () -> x.type(0x0A0B0C0D, 1));
        due.is(7, () -> x.type(0x0A0B0C0D, 2));
        due.is(10, () -> x.type(0x8A8B8C8D, 3));
        row(x, 255, 1, 2, 128, 10, 10, 11, 138, 139, 140);
        due.argument(() -> x.type(0, 0));
        due.argument(() -> x.type(0, 5));
        due.argument(() -> x.type(0, -1));
        due.argument(() -> x.type(0, Integer.MIN_VALUE));
        due.argument(() -> x.type(0, Integer.MAX_VALUE));
        row(x, 255, 1, 2, 128, 10, 10, 11, 138, 139, 140);
        CheckmarkOffice y = full();
        due.state(() -> y.type(0, 1));
        due.argument(() -> y.type(0, 5));
        y.drop(63);
        y.drop(62);
        due.state(() -> y.type(0, 3));
        due.is(64, () -> y.type(0x70710000, 2));
        due.is(0x71, () -> y.byteAt(63));
        due.state(() -> y.type(0, 4));
        due.range(() -> y.byteAt(64));
    }

    private void byteAt() {
        CheckmarkOffice x = withBytes(0, 255, 7);
        row(x, 0, 255, 7);
        due.range(() -> x.byteAt(-1));
        due.range(() -> x.byteAt(Integer.MIN_VALUE));
        due.range(() -> x.byteAt(Integer.MAX_VALUE));
        x.drop(0);
        due.range(() -> x.byteAt(2));
    }

    private void put() {
        CheckmarkOffice x = withBytes(1, 2, 3);
        due.is(2, () -> x.put(1, 255));
        due.is(255, () -> x.put(1, 0));
        due.is(3, () -> x.put(2, 3));
        row(x, 1, 0, 3);
        due.range(() -> x.put(3, 1));
        due.range(() -> x.put(-1, 1));
        due.argument(() -> x.put(0, 256));
        due.argument(() -> x.put(0, -1));
        due.range(() -> x.put(3, 256));
        row(x, 1, 0, 3);
    }

    private void insert() {
        CheckmarkOffice x = new CheckmarkOffice();
        due.is(1, () -> x.insert(0, 5));
        due.is(2, () -> x.insert(1, 255));
        due.is(3, () -> x.insert(0, 0));
        due.is(4, () -> x.insert(1, 9));
        row(x, 0, 9, 5, 255);
        due.range(() -> x.insert(5, 1));
        due.range(() -> x.insert(-1, 1));
        due.range(() -> x.insert(-1, 256));
        due.argument(() -> x.insert(0, 256));
        due.argument(() -> x.insert(0, -1));
        row(x, 0, 9, 5, 255);
        CheckmarkOffice y = full();
        due.state(() -> y.insert(0, 1));
        due.state(() -> y.insert(64, 1));
        due.argument(() -> y.insert(64, 256));
        due.range(() -> y.insert(65, 1));
        y.drop(0);
        due.is(64, () -> y.insert(63, 77));
        due.is(77, () -> y.byteAt(63));
    }

    private void drop() {
        CheckmarkOffice x = withBytes(1, 2, 3, 4);
        due.is(2, () -> x.drop(1));
        row(x, 1, 3, 4);
        due.range(() -> x.drop(3));
        due.range(() -> x.drop(-1));
        due.is(4, () -> x.drop(2));
        due.is(1, () -> x.drop(0));
        due.is(3, () -> x.drop(0));
        due.range(() -> x.drop(0));
        row(x);
    }

    private void wipe() {
        CheckmarkOffice x = withBytes(1, 2, 3);
        due.is(3, () -> x.wipe());
        row(x);
        due.is(0, () -> x.wipe());
        due.is(64, () -> full().wipe());
    }

    private void undo() {
        CheckmarkOffice x = withBytes(1, 2, 3, 4);
        x.put(0, 9);
        x.insert(2, 8);
        x.drop(4);
        x.wipe();
        x.undo();
        row(x, 9, 2, 8, 3);
        x.forge(0, 12345);
        due.is(4, () -> x.undo());
        row(x, 9, 2, 8, 3);
        due.is(5, () -> x.undo());
        row(x, 9, 2, 8, 3, 4);
        due.is(4, () -> x.undo());
        row(x, 9, 2, 3, 4);
        due.is(4, () -> x.undo());
        row(x, 1, 2, 3, 4);
        due.is(3, () -> x.undo());
        due.is(2, () -> x.undo());
        due.is(1, () -> x.undo());
        due.is(0, () -> x.undo());
        due.missing(() -> x.undo());
        row(x);
        x.wipe();
        x.type(0x05000000, 1);
        x.put(0, 5);
        due.is(1, () -> x.undo());
        due.is(0, () -> x.undo());
        due.is(0, () -> x.undo());
        due.missing(() -> x.undo());
    }

    private void undoKeepsTen() {
        CheckmarkOffice x = new CheckmarkOffice();
        for (int value = 0; value < 25; value++) {
            x.type(value << 24, 1);
        }
        for (int size = 24; size >= 15; size--) {
            due.is(size, () -> x.undo());
        }
        due.missing(() -> x.undo());
        due.is(14, () -> x.byteAt(14));
        due.range(() -> x.byteAt(15));
        due.is(16, () -> x.insert(0, 99));
        due.is(15, () -> x.undo());
        due.is(0, () -> x.byteAt(0));
        due.missing(() -> x.undo());
    }

    /** What throws, and what only tells, keeps no row; only the row is what is gone back on. */
    private void throwingKeepsNothing() {
        CheckmarkOffice x = withBytes(1, 2, 3, 4);
        x.digit(4);
        x.kind(8, 7, 0, 0, 0);
        x.polynomial(0, 19, 0);
        due.argument(() -> x.type(0, 5));
        due.argument(() -> x.put(0, 256));
        due.range(() -> x.insert(9, 1));
        due.range(() -> x.drop(4));
        due.range(() -> x.forge(1, 0));
        due.argument(() -> x.forge(0, -1));
        due.is(true, () -> x.isSound() ? 1 : 0);
        x.stays(1, 2, 0, 7);
        x.changed(0, 9);
        x.zeros(3);
        x.climbed(0, 77);
        row(x, 1, 2, 3, 4);
        due.is(3, () -> x.undo());
        due.is(4, () -> x.polynomial(1, 19, 0));
        due.is(8, () -> x.ofKind(1));
        due.is(1, () -> x.clear());
        due.is(19, () -> x.bits(0, 0));
    }
}
