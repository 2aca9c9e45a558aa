/** The edges that the promises 16 to 23 name, a test for each promise; and what a refused call leaves. */
public final class PolynomialsEdgesTest extends Edges {
    private static final int[] NO_SHELVES = {-1, 8, LEAST, MOST};

    public static void main(String[] arguments) {
        new PolynomialsEdgesTest().run();
    }

    private void run() {
        polynomial();
        polynomialPutsAllBits();
        ofKind();
        bits();
        joinNeedsShelves();
        joinUpToDegree95();
        joinWith0();
        divideRefuses();
        divideEdges();
        common();
        sameShelves();
        smallDegreesAlone();
        factorIndexes();
        factorsOfAll();
        orderNeedsTheOne();
        ordersOfAll();
        due.end();
    }

    private void shelf(CheckmarkOffice x, int shelf, int low, int middle, int high) {
        due.is(low, () -> x.bits(shelf, 0));
        due.is(middle, () -> x.bits(shelf, 1));
        due.is(high, () -> x.bits(shelf, 2));
    }

    /** z to the power, 0 to 95, put on a shelf; the shelf 7 is used for it. */
    private static void put(CheckmarkOffice x, int shelf, int power) {
        if (power < 64) {
            x.polynomial(shelf, power < 32 ? 1 << power : 0, power < 32 ? 0 : 1 << (power - 32));
        } else {
            x.polynomial(shelf, 0, LEAST);
            x.polynomial(7, power < 95 ? 1 << (power - 63) : 0, power < 95 ? 0 : 1);
            x.join(shelf, shelf, 7, true);
        }
    }

    /** Promise 16: the shelves are 0 to 7; 0 has the degree -1, and the bits 0 to 63 are told. */
    private void polynomial() {
        for (int shelf : NO_SHELVES) {
            all.range(x -> x.polynomial(shelf, 1, 1));
            all.range(x -> x.polynomial(shelf, 0, 0));
        }
        for (int shelf = 0; shelf <= 7; shelf++) {
            int at = shelf;
            full.is(-1, x -> x.polynomial(at, 0, 0));
            full.is(0, x -> x.polynomial(at, 1, 0));
            full.is(31, x -> x.polynomial(at, LEAST, 0));
            full.is(32, x -> x.polynomial(at, 0, 1));
            full.is(63, x -> x.polynomial(at, 0, LEAST));
            full.is(63, x -> x.polynomial(at, -1, -1));
            full.is(31, x -> x.polynomial(at, -1, 0));
        }
        for (int power = 0; power <= 63; power++) {
            int of = power;
            empty.is(power, x -> x.polynomial(0, of < 32 ? -1 >>> (31 - of) : 5, of < 32 ? 0 : -1 >>> (63 - of)));
        }
    }

    /** Promise 16: what was on the shelf is gone, the bits above 63 too, and other shelves are as they were. */
    private void polynomialPutsAllBits() {
        for (int shelf = 0; shelf <= 7; shelf++) {
            CheckmarkOffice before = Offices.full();
            CheckmarkOffice x = Offices.full();
            x.polynomial(shelf, -2, 3);
            shelf(x, shelf, -2, 3, 0);
            for (int other = 0; other <= 7; other++) {
                if (other != shelf) {
                    shelf(x, other, before.bits(other, 0), before.bits(other, 1), before.bits(other, 2));
                }
            }
        }
    }

    /** Promise 17: also of the widths 1 and 32; the width is the degree. */
    private void ofKind() {
        for (int shelf : NO_SHELVES) {
            all.range(x -> x.ofKind(shelf));
        }
        for (int width = 1; width <= 32; width++) {
            for (int polynomial : new int[] {1, width == 32 ? -1 : (1 << width) - 1}) {
                CheckmarkOffice x = Offices.full();
                x.kind(width, polynomial, 0, 1, 3);
                for (int shelf : new int[] {0, 7}) {
                    int of = width;
                    due.is(of, () -> x.ofKind(shelf));
                    shelf(x, shelf, of == 32 ? polynomial : polynomial | 1 << of, of == 32 ? 1 : 0, 0);
                }
            }
        }
    }

    /** Promise 18: a shelf, and then a part of 0 to 2. */
    private void bits() {
        for (int shelf : NO_SHELVES) {
            for (int part : new int[] {0, 2, -1, 3}) {
                all.range(x -> x.bits(shelf, part));
            }
        }
        for (int part : new int[] {-1, 3, 32, 33, LEAST, MOST}) {
            all.argument(x -> x.bits(0, part));
            all.argument(x -> x.bits(7, part));
        }
        for (int power = 0; power <= 95; power++) {
            CheckmarkOffice x = Offices.empty();
            put(x, 0, power);
            int bit = 1 << power % 32;
            shelf(x, 0, power < 32 ? bit : 0, power / 32 == 1 ? bit : 0, power >= 64 ? bit : 0);
        }
    }

    /** Promise 19: each of the three shelves; and that ahead of a degree above 95. */
    private void joinNeedsShelves() {
        for (int shelf : NO_SHELVES) {
            for (boolean isProduct : new boolean[] {false, true}) {
                all.range(x -> x.join(shelf, 0, 1, isProduct));
                all.range(x -> x.join(0, shelf, 1, isProduct));
                all.range(x -> x.join(0, 1, shelf, isProduct));
                all.range(x -> x.join(shelf, shelf, shelf, isProduct));
            }
        }
        full.state(x -> x.join(0, 1, 2, true));
        full.state(x -> x.join(7, 7, 7, true));
        full.is(-1, x -> x.join(7, 7, 7, false));
        full.is(-1, x -> x.join(0, 7, 7, false));
    }

    /** Promise 19: a product of the degree 95 is put, one of 96 is refused; a sum has none above 95. */
    private void joinUpToDegree95() {
        for (int power = 1; power <= 95; power++) {
            int of = power;
            CheckmarkOffice x = Offices.empty();
            put(x, 1, power);
            put(x, 0, 95 - power);
            due.is(95, () -> x.join(2, 0, 1, true));
            shelf(x, 2, 0, 0, LEAST);
            due.is(95, () -> x.join(2, 1, 0, true));
            due.is(Math.max(of, 95 - of), () -> x.join(3, 0, 1, false));
            put(x, 4, 96 - power);
            due.state(() -> x.join(5, 4, 1, true));
            due.state(() -> x.join(2, 1, 4, true));
            shelf(x, 5, 0, 0, 0);
            shelf(x, 2, 0, 0, LEAST);
        }
        full.behind(x -> x.join(6, 0, 6, false), 95, x -> x.join(6, 6, 0, false));
        some.is(63, x -> x.join(0, 7, 0, false));
    }

    /** Promise 19: a product with 0 is 0, whatever the other one's degree; and one with 1 is the other one. */
    private void joinWith0() {
        for (int shelf = 0; shelf <= 6; shelf++) {
            int at = shelf;
            CheckmarkOffice x = Offices.full();
            x.polynomial(7, 0, 0);
            due.is(95, () -> x.join(7, at, 7, false));
            x.polynomial(7, 0, 0);
            due.is(-1, () -> x.join(7, at, 7, true));
            due.is(-1, () -> x.join(7, 7, at, true));
            due.is(-1, () -> x.join(7, 7, 7, true));
            shelf(x, 7, 0, 0, 0);
            x.polynomial(7, 1, 0);
            due.is(95, () -> x.join(7, 7, at, true));
            shelf(x, 7, x.bits(at, 0), x.bits(at, 1), x.bits(at, 2));
            x.polynomial(7, 2, 0);
            due.state(() -> x.join(7, 7, at, true));
            shelf(x, 7, 2, 0, 0);
        }
        empty.tells(-1, x -> x.join(0, 1, 2, true));
        empty.tells(-1, x -> x.join(0, 1, 2, false));
    }

    /** Promise 20: four shelves; then that quotient and rest have two; then that it is not divided by 0. */
    private void divideRefuses() {
        for (int shelf : NO_SHELVES) {
            all.range(x -> x.divide(shelf, 1, 0, 3));
            all.range(x -> x.divide(1, shelf, 0, 3));
            all.range(x -> x.divide(0, 1, shelf, 3));
            all.range(x -> x.divide(0, 1, 3, shelf));
            all.range(x -> x.divide(1, 1, shelf, 3));
            all.range(x -> x.divide(1, 1, 3, shelf));
            all.range(x -> x.divide(shelf, shelf, 0, 3));
            some.range(x -> x.divide(2, 3, shelf, 1));
            some.range(x -> x.divide(shelf, 3, 0, 1));
        }
        for (int shelf = 0; shelf <= 7; shelf++) {
            int at = shelf;
            all.argument(x -> x.divide(at, at, 0, 3));
            some.argument(x -> x.divide(at, at, 0, 1));
            empty.arithmetic(x -> x.divide(at, (at + 1) % 8, at, at));
            some.arithmetic(x -> x.divide(at, (at + 1) % 8, at, 1));
        }
    }

    /** Promise 20: by 1, by itself, by one of a higher degree, and 0 that is divided. */
    private void divideEdges() {
        for (int shelf = 0; shelf <= 7; shelf++) {
            int at = shelf;
            CheckmarkOffice before = Offices.full();
            CheckmarkOffice x = Offices.full();
            int rest = (at + 1) % 8;
            due.is(-1, () -> x.divide(at, rest, at, at));
            shelf(x, at, 1, 0, 0);
            shelf(x, rest, 0, 0, 0);
            CheckmarkOffice y = Offices.full();
            y.polynomial(rest, 1, 0);
            due.is(-1, () -> y.divide(at, rest, at, rest));
            shelf(y, at, before.bits(at, 0), before.bits(at, 1), before.bits(at, 2));
            shelf(y, rest, 0, 0, 0);
            CheckmarkOffice z = Offices.full();
            z.polynomial(rest, -1, -1);
            due.is(63, () -> z.divide(at, rest, rest, at));
            shelf(z, at, 0, 0, 0);
            shelf(z, rest, -1, -1, 0);
            z.polynomial(rest, 2, 0);
            due.is(-1, () -> z.divide(rest, at, at, rest));
            shelf(z, rest, 0, 0, 0);
        }
        for (int power = 0; power <= 95; power++) {
            CheckmarkOffice x = Offices.empty();
            put(x, 0, 95);
            put(x, 1, power);
            due.is(-1, () -> x.divide(2, 3, 0, 1));
            put(x, 4, 95 - power);
            shelf(x, 2, x.bits(4, 0), x.bits(4, 1), x.bits(4, 2));
        }
    }

    /** Promise 21: three shelves; of 0 and another one it is that, of 0 twice 0. */
    private void common() {
        for (int shelf : NO_SHELVES) {
            all.range(x -> x.common(shelf, 0, 1));
            all.range(x -> x.common(0, shelf, 1));
            all.range(x -> x.common(0, 1, shelf));
        }
        empty.tells(-1, x -> x.common(0, 1, 2));
        empty.tells(-1, x -> x.common(7, 7, 7));
        for (int shelf = 0; shelf <= 6; shelf++) {
            CheckmarkOffice x = Offices.full();
            x.polynomial(7, 0, 0);
            int at = shelf;
            int to = (shelf + 1) % 7;
            for (int turn = 0; turn < 2; turn++) {
                int one = turn == 0 ? at : 7;
                due.is(95, () -> x.common(to, one, at + 7 - one));
                shelf(x, to, x.bits(at, 0), x.bits(at, 1), x.bits(at, 2));
                x.polynomial(to, 1, 1);
            }
            due.is(95, () -> x.common(to, at, at));
            x.polynomial(7, 1, 0);
            due.is(0, () -> x.common(to, at, 7));
            shelf(x, to, 1, 0, 0);
        }
    }

    /** Shelves that are read may be those that are written: each way to choose of four shelves. */
    private void sameShelves() {
        for (int choice = 0; choice < 256; choice++) {
            int a = choice & 3;
            int b = choice >> 2 & 3;
            int c = choice >> 4 & 3;
            int d = choice >> 6;
            same(x -> x.join(a, b, c, d % 2 == 0), model -> model.join(a, b, c, d % 2 == 0));
            same(x -> x.divide(a, b, c, d), model -> model.divide(a, b, c, d));
            same(x -> x.common(a, b, c), model -> model.common(a, b, c));
        }
    }

    private interface Modelled {
        long on(Model model);
    }

    private void same(Tried.Call call, Modelled modelled) {
        int[][] numbers = {{0x6F35, 0}, {0x35, 0}, {0, 0}, {0x1021, 1}};
        CheckmarkOffice x = Offices.empty();
        Model model = new Model();
        for (int shelf = 0; shelf < 4; shelf++) {
            x.polynomial(shelf, numbers[shelf][0], numbers[shelf][1]);
            model.polynomial(shelf, numbers[shelf][0], numbers[shelf][1]);
        }
        due.compare(Due.answerOf(() -> modelled.on(model)), Due.answerOf(() -> call.on(x)));
        for (int shelf = 0; shelf < 4; shelf++) {
            shelf(x, shelf, model.bits(shelf, 0), model.bits(shelf, 1), model.bits(shelf, 2));
        }
    }

    /** Promises 22 and 23: a shelf; then a degree of 1 to 12; and what is missing last. */
    private void smallDegreesAlone() {
        for (int shelf : NO_SHELVES) {
            all.range(x -> x.factor(shelf, 0));
            all.range(x -> x.factor(shelf, -1));
            all.range(x -> x.order(shelf));
        }
        for (int shelf = 0; shelf <= 7; shelf++) {
            int at = shelf;
            for (Tried none : new Tried[] {empty, full}) {
                none.unsupported(x -> x.factor(at, 0));
                none.unsupported(x -> x.factor(at, -1));
                none.unsupported(x -> x.order(at));
            }
        }
        for (int shelf : new int[] {1, 2, 5, 7}) {
            some.unsupported(x -> x.factor(shelf, 0));
            some.unsupported(x -> x.factor(shelf, MOST));
            some.unsupported(x -> x.order(shelf));
        }
        for (int[] number : new int[][] {{0, 0}, {1, 0}, {8192, 0}, {8193, 0}, {16383, 0}, {-1, 0}, {LEAST, 0},
            {0, 1}, {7, 1}, {7, LEAST}, {0, -1}}) {
            Tried one = new Tried(due, () -> with(number[0], number[1]));
            one.unsupported(x -> x.factor(3, 0));
            one.unsupported(x -> x.factor(3, 13));
            one.unsupported(x -> x.order(3));
        }
    }

    private static CheckmarkOffice with(int low, int high) {
        CheckmarkOffice x = Offices.empty();
        x.polynomial(3, low, high);
        return x;
    }

    /** Promise 22: the indexes are from 0 to the number of factors less 1. */
    private void factorIndexes() {
        int[][] known = {{2, 2}, {3, 3}, {7, 7}, {4, 2, 2}, {4096, 2, 2, 2, 2, 2, 2, 2, 2, 2, 2, 2, 2}, {8191, 8191},
            {4097, 3, 3, 3, 3, 7, 7, 7, 7}};
        for (int[] factors : known) {
            Tried one = new Tried(due, () -> with(factors[0], 0));
            for (int index = 1; index < factors.length; index++) {
                int at = index - 1;
                one.tells(factors[index], x -> x.factor(3, at));
            }
            for (int index : new int[] {-1, factors.length - 1, factors.length, LEAST, MOST}) {
                one.missing(x -> x.factor(3, index));
            }
        }
    }

    private static int degree(int number) {
        return 31 - Integer.numberOfLeadingZeros(number);
    }

    private static int rest(int number, int by) {
        int rest = number;
        while (rest != 0 && degree(rest) >= degree(by)) {
            rest ^= by << (degree(rest) - degree(by));
        }
        return rest;
    }

    private static int product(int one, int other) {
        int product = 0;
        for (int power = 0; power < 13; power++) {
            product ^= (one >> power & 1) * (other << power);
        }
        return product;
    }

    /** Promise 22, all polynomials of 1 to 12: rising factors that have none themselves, and make the polynomial. */
    private void factorsOfAll() {
        boolean[] hasFactors = new boolean[8192];
        for (int one = 2; one < 8192; one++) {
            for (int other = 2; degree(one) + degree(other) <= 12; other++) {
                hasFactors[product(one, other)] = true;
            }
        }
        for (int number = 2; number < 8192; number++) {
            CheckmarkOffice x = with(number, 0);
            int made = 1;
            int last = 2;
            int index = 0;
            for (; made != number && index < 12; index++) {
                int at = index;
                int factor = x.factor(3, at);
                int before = last;
                due.is(true, () -> factor >= before && factor < 8192 && !hasFactors[factor] ? 1 : 0);
                made = product(made, factor);
                last = factor;
            }
            int all = index;
            int product = made;
            due.is(number, () -> product);
            due.missing(() -> x.factor(3, all));
            due.missing(() -> x.factor(3, -1));
        }
    }

    /** Promise 23: an even polynomial has no order; but that is told behind its degree. */
    private void orderNeedsTheOne() {
        for (int number : new int[] {2, 4, 6, 4096, 4098, 8190}) {
            new Tried(due, () -> with(number, 0)).missing(x -> x.order(3));
        }
        new Tried(due, () -> with(8192, 0)).unsupported(x -> x.order(3));
        new Tried(due, () -> with(3, 0)).tells(1, x -> x.order(3));
        new Tried(due, () -> with(4097, 0)).tells(12, x -> x.order(3));
        new Tried(due, () -> with(4179, 0)).tells(4095, x -> x.order(3));
        some.missing(x -> x.order(6));
        some.tells(4095, x -> x.order(4));
    }

    /** Promise 23, all odd polynomials of the degrees 1 to 12. */
    private void ordersOfAll() {
        for (int number = 3; number < 8192; number += 2) {
            CheckmarkOffice x = with(number, 0);
            int order = 1;
            for (int power = rest(2, number); power != 1; power = rest(power << 1, number)) {
                order++;
            }
            due.is(order, () -> x.order(3));
        }
    }
}
