/** Promises 16 to 23: polynomials over two. */
public final class PolynomialsTest {
    private final Due due = new Due();

    public static void main(String[] arguments) {
        new PolynomialsTest().run();
    }

    private void run() {
        polynomial();
        ofKind();
        bits();
        joinSums();
        joinProducts();
        divide();
        divideOnShelves();
        common();
        factor();
        order();
        due.end();
    }

    private void shelf(CheckmarkOffice x, int shelf, int low, int middle, int high) {
        due.is(low, () -> x.bits(shelf, 0));
        due.is(middle, () -> x.bits(shelf, 1));
        due.is(high, () -> x.bits(shelf, 2));
    }

    private void polynomial() {
        CheckmarkOffice x = new CheckmarkOffice();
        due.is(-1, () -> x.polynomial(0, 0, 0));
        due.is(0, () -> x.polynomial(0, 1, 0));
        due.is(31, () -> x.polynomial(1, -1, 0));
        due.is(31, () -> x.polynomial(1, Integer.MIN_VALUE, 0));
        due.is(32, () -> x.polynomial(7, 5, 1));
        due.is(63, () -> x.polynomial(6, 5, -7));
        shelf(x, 0, 1, 0, 0);
        shelf(x, 1, Integer.MIN_VALUE, 0, 0);
        shelf(x, 7, 5, 1, 0);
        shelf(x, 6, 5, -7, 0);
        due.is(4, () -> x.polynomial(6, 19, 0));
        shelf(x, 6, 19, 0, 0);
        due.range(() -> x.polynomial(8, 1, 1));
        due.range(() -> x.polynomial(-1, 1, 1));
        due.range(() -> x.polynomial(Integer.MAX_VALUE, 1, 1));
        due.range(() -> x.polynomial(Integer.MIN_VALUE, 1, 1));
    }

    private void ofKind() {
        CheckmarkOffice x = new CheckmarkOffice();
        due.is(32, () -> x.ofKind(3));
        shelf(x, 3, 0x1EDC6F41, 1, 0);
        x.kind(32, 0x80000001, 7, 9, 3);
        due.is(32, () -> x.ofKind(4));
        shelf(x, 4, 0x80000001, 1, 0);
        x.kind(31, 0x7FFFFFFF, 0, 0, 0);
        due.is(31, () -> x.ofKind(3));
        shelf(x, 3, -1, 0, 0);
        x.kind(1, 1, 0, 0, 0);
        due.is(1, () -> x.ofKind(3));
        shelf(x, 3, 3, 0, 0);
        due.range(() -> x.ofKind(8));
        due.range(() -> x.ofKind(-1));
    }

    private void bits() {
        CheckmarkOffice x = new CheckmarkOffice();
        x.polynomial(7, 1, 0);
        due.is(1, () -> x.bits(7, 0));
        due.range(() -> x.bits(8, 0));
        due.range(() -> x.bits(-1, 0));
        due.range(() -> x.bits(8, 3));
        due.argument(() -> x.bits(0, 3));
        due.argument(() -> x.bits(0, -1));
        due.argument(() -> x.bits(0, Integer.MIN_VALUE));
    }

    private void joinSums() {
        CheckmarkOffice x = new CheckmarkOffice();
        x.polynomial(0, 0b1101, 3);
        x.polynomial(1, 0b1011, 3);
        due.is(2, () -> x.join(2, 0, 1, false));
        shelf(x, 2, 0b0110, 0, 0);
        due.is(-1, () -> x.join(0, 0, 0, false));
        shelf(x, 0, 0, 0, 0);
        due.is(33, () -> x.join(1, 1, 2, false));
        shelf(x, 1, 0b1101, 3, 0);
        due.range(() -> x.join(8, 0, 0, false));
        due.range(() -> x.join(0, 8, 0, false));
        due.range(() -> x.join(0, 0, 8, false));
        due.range(() -> x.join(-1, 0, 0, true));
        due.range(() -> x.join(0, -1, 0, true));
        due.range(() -> x.join(0, 0, -1, true));
    }

    private void joinProducts() {
        CheckmarkOffice x = new CheckmarkOffice();
        x.polynomial(0, 3, 0);
        due.is(2, () -> x.join(1, 0, 0, true));
        shelf(x, 1, 5, 0, 0);
        x.polynomial(2, 1, Integer.MIN_VALUE);
        x.polynomial(3, 1, 1);
        due.is(95, () -> x.join(4, 2, 3, true));
        shelf(x, 4, 1, 0x80000001, Integer.MIN_VALUE);
        due.is(95, () -> x.join(5, 3, 2, true));
        shelf(x, 5, 1, 0x80000001, Integer.MIN_VALUE);
        due.state(() -> x.join(4, 4, 0, true));
        x.polynomial(6, 0, 2);
        due.state(() -> x.join(6, 6, 2, true));
        shelf(x, 6, 0, 2, 0);
        due.range(() -> x.join(8, 4, 0, true));
        shelf(x, 4, 1, 0x80000001, Integer.MIN_VALUE);
        due.is(-1, () -> x.join(7, 4, 7, true));
        due.is(-1, () -> x.join(7, 7, 4, true));
        x.polynomial(7, 1, 0);
        due.is(95, () -> x.join(7, 7, 4, true));
        shelf(x, 7, 1, 0x80000001, Integer.MIN_VALUE);
        due.is(-1, () -> x.join(7, 7, 4, false));
        x.polynomial(0, -1, -1);
        x.polynomial(1, -1, 0);
        due.is(94, () -> x.join(1, 0, 1, true));
        shelf(x, 1, 0x55555555, 0, 0x55555555);
    }

    private void divide() {
        CheckmarkOffice x = new CheckmarkOffice();
        x.polynomial(0, 0b110101, 0);
        x.polynomial(1, 0b111, 0);
        due.is(1, () -> x.divide(2, 3, 0, 1));
        shelf(x, 2, 0b1010, 0, 0);
        shelf(x, 3, 0b11, 0, 0);
        due.is(-1, () -> x.divide(4, 5, 1, 1));
        shelf(x, 4, 1, 0, 0);
        shelf(x, 5, 0, 0, 0);
        due.is(2, () -> x.divide(4, 5, 1, 0));
        shelf(x, 4, 0, 0, 0);
        shelf(x, 5, 0b111, 0, 0);
        due.is(-1, () -> x.divide(4, 5, 7, 1));
        shelf(x, 4, 0, 0, 0);
        x.polynomial(6, 1, 0);
        due.is(-1, () -> x.divide(4, 5, 0, 6));
        shelf(x, 4, 0b110101, 0, 0);
        due.range(() -> x.divide(8, 1, 0, 7));
        due.range(() -> x.divide(0, -1, 0, 7));
        due.range(() -> x.divide(0, 1, 8, 7));
        due.range(() -> x.divide(0, 0, 1, 8));
        due.argument(() -> x.divide(3, 3, 0, 7));
        due.argument(() -> x.divide(3, 3, 0, 1));
        due.arithmetic(() -> x.divide(3, 2, 0, 7));
        due.arithmetic(() -> x.divide(3, 2, 7, 7));
        shelf(x, 0, 0b110101, 0, 0);
        shelf(x, 4, 0b110101, 0, 0);
    }

    /** Shelves that are read are also those that are written; and all 96 bits are used. */
    private void divideOnShelves() {
        CheckmarkOffice x = new CheckmarkOffice();
        x.polynomial(0, 0x00400007, 1);
        x.polynomial(1, 0x80000011, 0);
        x.polynomial(2, 0x80000055, 0);
        x.join(3, 0, 1, true);
        x.join(3, 3, 2, true);
        shelf(x, 3, 0x41401B1B, 0xC88005EA, 0x40100023);
        x.polynomial(4, 0x123, 0);
        x.join(3, 3, 4, false);
        x.ofKind(4);
        due.is(29, () -> x.divide(3, 4, 3, 4));
        shelf(x, 3, 0x33AC98D2, 0x47F58B81, 0);
        shelf(x, 4, 0x2690D86A, 0, 0);
        x.ofKind(5);
        x.join(3, 3, 5, true);
        x.join(3, 3, 4, false);
        shelf(x, 3, 0x41401B1B ^ 0x123, 0xC88005EA, 0x40100023);
        due.is(29, () -> x.divide(5, 3, 3, 5));
        shelf(x, 5, 0x33AC98D2, 0x47F58B81, 0);
        shelf(x, 3, 0x2690D86A, 0, 0);
        x.polynomial(6, 1, Integer.MIN_VALUE);
        x.polynomial(7, 0, 1);
        x.join(6, 6, 7, true);
        x.polynomial(7, 1, 0);
        due.is(-1, () -> x.divide(0, 1, 6, 7));
        shelf(x, 0, 0, 1, Integer.MIN_VALUE);
    }

    private void common() {
        CheckmarkOffice x = new CheckmarkOffice();
        due.is(-1, () -> x.common(0, 1, 2));
        x.polynomial(1, 0b110101, 0);
        due.is(5, () -> x.common(0, 1, 2));
        shelf(x, 0, 0b110101, 0, 0);
        due.is(5, () -> x.common(3, 2, 1));
        shelf(x, 3, 0b110101, 0, 0);
        x.polynomial(2, 19, 0);
        due.is(4, () -> x.common(4, 1, 2));
        shelf(x, 4, 19, 0, 0);
        x.polynomial(3, 3, 0);
        due.is(1, () -> x.common(4, 3, 1));
        due.is(0, () -> x.common(4, 3, 2));
        shelf(x, 4, 1, 0, 0);
        shelf(x, 1, 0b110101, 0, 0);
        shelf(x, 2, 19, 0, 0);
        due.is(4, () -> x.common(1, 1, 2));
        shelf(x, 1, 19, 0, 0);
        x.polynomial(5, 0x00400007, 1);
        x.polynomial(6, 0x80000011, 0);
        x.polynomial(7, 0x80000055, 0);
        x.join(0, 5, 6, true);
        x.join(1, 5, 7, true);
        due.is(32, () -> x.common(2, 0, 1));
        shelf(x, 2, 0x00400007, 1, 0);
        x.polynomial(0, 0, Integer.MIN_VALUE);
        x.polynomial(1, 0, 1);
        x.join(0, 0, 1, true);
        due.is(32, () -> x.common(0, 0, 1));
        due.range(() -> x.common(8, 0, 0));
        due.range(() -> x.common(0, -1, 0));
        due.range(() -> x.common(0, 0, 8));
    }

    private void factors(int number, int... factors) {
        CheckmarkOffice x = new CheckmarkOffice();
        x.polynomial(5, number, 0);
        for (int index = 0; index < factors.length; index++) {
            int at = index;
            due.is(factors[index], () -> x.factor(5, at));
        }
        due.missing(() -> x.factor(5, factors.length));
        due.missing(() -> x.factor(5, -1));
        due.missing(() -> x.factor(5, Integer.MAX_VALUE));
        due.is(number, () -> x.bits(5, 0));
    }

    private void factor() {
        factors(2, 2);
        factors(3, 3);
        factors(5, 3, 3);
        factors(1652, 2, 2, 3, 3, 7, 19);
        factors(4096, 2, 2, 2, 2, 2, 2, 2, 2, 2, 2, 2, 2);
        factors(4101, 67, 67);
        factors(6371, 67, 97);
        factors(8191, 8191);
        factors(4105, 4105);
        factors(53, 3, 19);
        CheckmarkOffice x = new CheckmarkOffice();
        due.unsupported(() -> x.factor(0, 0));
        x.polynomial(0, 1, 0);
        due.unsupported(() -> x.factor(0, 0));
        x.polynomial(0, 8192, 0);
        due.unsupported(() -> x.factor(0, 0));
        x.polynomial(0, 7, 1);
        due.unsupported(() -> x.factor(0, 0));
        due.unsupported(() -> x.factor(0, -1));
        due.range(() -> x.factor(8, 0));
        due.range(() -> x.factor(-1, 0));
    }

    private void order(int number, int order) {
        CheckmarkOffice x = new CheckmarkOffice();
        x.polynomial(2, number, 0);
        due.is(order, () -> x.order(2));
        due.is(number, () -> x.bits(2, 0));
    }

    private void order() {
        int[][] known = {{3, 1}, {5, 2}, {7, 3}, {31, 5}, {73, 9}, {17, 4}, {19, 15}, {4097, 12}, {8191, 13},
            {53, 15}, {8137, 4095}, {4179, 4095}};
        for (int[] one : known) {
            order(one[0], one[1]);
        }
        CheckmarkOffice x = new CheckmarkOffice();
        due.unsupported(() -> x.order(0));
        x.polynomial(0, 1, 0);
        due.unsupported(() -> x.order(0));
        x.polynomial(0, 8192, 0);
        due.unsupported(() -> x.order(0));
        x.polynomial(0, 1, 1);
        due.unsupported(() -> x.order(0));
        x.polynomial(0, 2, 0);
        due.missing(() -> x.order(0));
        x.polynomial(0, 8190, 0);
        due.missing(() -> x.order(0));
        due.range(() -> x.order(8));
        due.range(() -> x.order(-1));
    }
}
