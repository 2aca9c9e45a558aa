/** The edges that the promises 28 to 34 name, a test for each promise; and what a refused call leaves. */
public final class DigitsEdgesTest extends Edges {
    private static final String SCHEMES = "lent";
    private static final String SLIPS = "snjw";
    private static final String[] ROWS = {"0", "5", "9", "00", "09", "90", "11", "121", "909", "000", "777",
        "000000000000000000", "999999999999999999", "314159265358979323", "090909090909090909"};

    public static void main(String[] arguments) {
        new DigitsEdgesTest().run();
    }

    private void run() {
        digit();
        eighteenDigits();
        clear();
        clearedDigitsAreGone();
        checkHasFourSchemes();
        checkNeedsDigits();
        checksOfShortAndLongRows();
        leastAndGreatestChecks();
        unseenHasFourSchemesAndSlips();
        unseenNeedsDigits();
        unseenOfShortAndLongRows();
        unseenOfTheLeastAndTheGreatestDigit();
        ware();
        wareOf1To9Digits();
        twentyWares();
        meantNeedsDigits();
        meantOfFewDigits();
        meantOfManyWares();
        nextWare();
        nextWareGoesOn();
        due.end();
    }

    private Tried digits(String typed) {
        return new Tried(due, () -> Offices.ofDigits(typed));
    }

    private static String several(char sign, int many) {
        return String.valueOf(sign).repeat(many);
    }

    /** Promise 28: a digit of 0 to 9; that it is one is told ahead of there being 18. */
    private void digit() {
        for (int digit : new int[] {-1, 10, 11, -10, '0', LEAST, MOST}) {
            all.argument(x -> x.digit(digit));
        }
        for (int digit = 0; digit <= 9; digit++) {
            int one = digit;
            full.state(x -> x.digit(one));
            empty.is(1, x -> x.digit(one));
            empty.behind(x -> x.digit(one), 98 - 100 * one % 97, x -> x.check('n'));
            some.is(13, x -> x.digit(one));
        }
    }

    /** Promise 28: eighteen digits are allowed, and a nineteenth is refused. */
    private void eighteenDigits() {
        for (int many = 0; many <= 18; many++) {
            Tried row = digits(several('9', many));
            if (many < 18) {
                row.is(many + 1, x -> x.digit(0));
                row.is(many + 1, x -> x.digit(9));
            } else {
                row.state(x -> x.digit(0));
                row.state(x -> x.digit(9));
            }
            row.argument(x -> x.digit(10));
            row.argument(x -> x.digit(-1));
        }
        digits(several('9', 18)).behind(x -> x.clear(), 1, x -> x.digit(4));
    }

    /** Promise 29: also no digits, and 18; the wares stay. */
    private void clear() {
        empty.tells(0, x -> x.clear());
        some.is(12, x -> x.clear());
        some.behind(x -> x.clear(), 0, x -> x.clear());
        full.is(18, x -> x.clear());
        digits("7").is(1, x -> x.clear());
        CheckmarkOffice x = Offices.full();
        x.clear();
        due.missing(() -> x.check('l'));
        due.is(-1, () -> x.nextWare(10));
        due.range(() -> x.nextWare(20));
        due.is(64, () -> x.wipe());
    }

    /** Promise 30: each sign but the four is refused, whether or not digits are typed. */
    private void checkHasFourSchemes() {
        CheckmarkOffice typed = null;
        CheckmarkOffice none = null;
        for (int sign = 0; sign <= 65535; sign++) {
            typed = sign % 400 == 0 ? Offices.some() : typed;
            none = sign % 400 == 0 ? Offices.empty() : none;
            char scheme = (char) sign;
            CheckmarkOffice x = typed;
            CheckmarkOffice y = none;
            if (SCHEMES.indexOf(scheme) < 0) {
                due.argument(() -> x.check(scheme));
                due.argument(() -> y.check(scheme));
            } else {
                due.missing(() -> y.check(scheme));
            }
        }
        for (char scheme : new char[] {'k', 'm', 'L', 's', 0, 65535}) {
            all.argument(x -> x.check(scheme));
        }
    }

    private void checkNeedsDigits() {
        Tried cleared = new Tried(due, () -> Offices.ofWares(20));
        for (char scheme : SCHEMES.toCharArray()) {
            empty.missing(x -> x.check(scheme));
            cleared.missing(x -> x.check(scheme));
        }
    }

    /** Promise 30: one digit, two, and 18; the digits stay. */
    private void checksOfShortAndLongRows() {
        for (String typed : ROWS) {
            Model model = new Model();
            model.digits = typed;
            for (char scheme : SCHEMES.toCharArray()) {
                digits(typed).tells(model.check(scheme), x -> x.check(scheme));
            }
        }
    }

    /** By the terms a doubled digit is less 9 if it is above 9; and the checks' least and greatest values. */
    private void leastAndGreatestChecks() {
        digits("4").tells(2, x -> x.check('l'));
        digits("5").tells(9, x -> x.check('l'));
        digits("9").tells(1, x -> x.check('l'));
        digits("0").tells(0, x -> x.check('l'));
        digits("91").tells(9, x -> x.check('l'));
        digits("18").tells(2, x -> x.check('l'));
        digits("19").tells(0, x -> x.check('l'));
        digits("0").tells(0, x -> x.check('e'));
        digits("6").tells(10, x -> x.check('e'));
        digits("14").tells(10, x -> x.check('e'));
        digits("35").tells(0, x -> x.check('e'));
        digits("5").tells(1, x -> x.check('e'));
        digits("0").tells(98, x -> x.check('n'));
        digits("97").tells(98, x -> x.check('n'));
        digits("194").tells(98, x -> x.check('n'));
        digits("32").tells(2, x -> x.check('n'));
        digits("65").tells(97, x -> x.check('n'));
        digits("7").tells(0, x -> x.check('t'));
        digits("8").tells(9, x -> x.check('t'));
        digits("4").tells(3, x -> x.check('t'));
    }

    /** Promise 31: a scheme and slips that there are; both are told ahead of there being no digits. */
    private void unseenHasFourSchemesAndSlips() {
        CheckmarkOffice none = null;
        for (int sign = 0; sign <= 65535; sign++) {
            none = sign % 200 == 0 ? Offices.empty() : none;
            char one = (char) sign;
            CheckmarkOffice x = none;
            if (SCHEMES.indexOf(one) < 0) {
                due.argument(() -> x.unseen(one, 's'));
            }
            if (SLIPS.indexOf(one) < 0) {
                due.argument(() -> x.unseen('l', one));
            }
        }
        for (char wrong : new char[] {'x', 'S', 'L', 0, 255, 65535}) {
            for (char scheme : SCHEMES.toCharArray()) {
                all.argument(x -> x.unseen(scheme, wrong));
            }
            for (char slips : SLIPS.toCharArray()) {
                all.argument(x -> x.unseen(wrong, slips));
            }
            all.argument(x -> x.unseen(wrong, wrong));
        }
        all.argument(x -> x.unseen('s', 'l'));
        all.argument(x -> x.unseen('j', 'w'));
        all.argument(x -> x.unseen('t', 'e'));
    }

    private void unseenNeedsDigits() {
        Tried cleared = new Tried(due, () -> Offices.ofWares(20));
        for (char scheme : SCHEMES.toCharArray()) {
            for (char slips : SLIPS.toCharArray()) {
                empty.missing(x -> x.unseen(scheme, slips));
                cleared.missing(x -> x.unseen(scheme, slips));
            }
        }
    }

    /** Promise 31: rows that are too short for neighbours, or for one between them, and rows of 18. */
    private void unseenOfShortAndLongRows() {
        for (String typed : ROWS) {
            Model model = new Model();
            model.digits = typed;
            Tried row = digits(typed);
            for (char scheme : SCHEMES.toCharArray()) {
                row.tells(0, x -> x.unseen(scheme, 's'));
                for (char slips : SLIPS.toCharArray()) {
                    row.tells(model.unseen(scheme, slips), x -> x.unseen(scheme, slips));
                }
            }
        }
        for (char scheme : SCHEMES.toCharArray()) {
            digits("5").tells(0, x -> x.unseen(scheme, 'n'));
            digits("5").tells(0, x -> x.unseen(scheme, 'w'));
            digits("05").tells(0, x -> x.unseen(scheme, 'j'));
        }
        digits("09").tells(1, x -> x.unseen('l', 'n'));
        digits("109").tells(1, x -> x.unseen('l', 'n'));
        digits("091").tells(1, x -> x.unseen('l', 'n'));
        digits("001").tells(1, x -> x.unseen('l', 'j'));
        digits("0012").tells(2, x -> x.unseen('l', 'j'));
        digits("55").tells(1, x -> x.unseen('l', 'w'));
        digits("155").tells(1, x -> x.unseen('l', 'w'));
        digits("551").tells(1, x -> x.unseen('l', 'w'));
    }

    /** Promise 31: two like digits may also become 0, and 9; 0 and 9 may also become others. */
    private void unseenOfTheLeastAndTheGreatestDigit() {
        digits("881234").tells(1, x -> x.unseen('t', 'w'));
        digits("001234").tells(1, x -> x.unseen('t', 'w'));
        digits("77").tells(1, x -> x.unseen('t', 'w'));
        digits("99").tells(1, x -> x.unseen('t', 'w'));
        digits("00").tells(0, x -> x.unseen('t', 'w'));
    }

    /** Promise 29: what was typed ahead of clear() counts no more, in a row that is shorter. */
    private void clearedDigitsAreGone() {
        for (String typed : ROWS) {
            CheckmarkOffice x = Offices.ofDigits(several('7', 18));
            Offices.type(x, typed);
            CheckmarkOffice y = Offices.ofDigits(typed);
            for (char scheme : SCHEMES.toCharArray()) {
                due.is(y.check(scheme), () -> x.check(scheme));
                for (char slips : SLIPS.toCharArray()) {
                    due.is(y.unseen(scheme, slips), () -> x.unseen(scheme, slips));
                }
            }
            due.is(typed.length(), () -> x.clear());
        }
    }

    /** Promise 32: digits; then that they are not above 9; then that there is room. */
    private void ware() {
        empty.missing(x -> x.ware());
        some.unsupported(x -> x.ware());
        full.unsupported(x -> x.ware());
        new Tried(due, () -> Offices.ofWares(20)).missing(x -> x.ware());
        CheckmarkOffice x = Offices.ofWares(20);
        Offices.type(x, "1234567890");
        due.unsupported(() -> x.ware());
        Offices.type(x, "123456789");
        due.state(() -> x.ware());
        Offices.type(x, "10");
        due.is(0, () -> x.ware());
    }

    /** By the terms a ware has 1 to 9 digits; they stay typed; and those ahead of a number count. */
    private void wareOf1To9Digits() {
        CheckmarkOffice x = Offices.empty();
        for (int many = 1; many <= 9; many++) {
            int number = many - 1;
            Offices.type(x, several('0', many));
            due.is(number, () -> x.ware());
            due.is(number, () -> x.ware());
            due.is(number, () -> x.meant());
            due.is(number + 1, () -> x.clear());
        }
        for (int many = 10; many <= 18; many++) {
            digits(several('0', many)).unsupported(y -> y.ware());
        }
        Offices.type(x, several('0', 10));
        due.unsupported(() -> x.ware());
        due.range(() -> x.nextWare(9));
    }

    /** Promise 32: a twentieth ware is added, a twenty-first is refused; those that there are have numbers still. */
    private void twentyWares() {
        for (int many = 0; many <= 20; many++) {
            int number = many;
            Tried wares = new Tried(due, () -> {
                CheckmarkOffice office = Offices.ofWares(number);
                Offices.type(office, "7654321");
                return office;
            });
            if (number < 20) {
                wares.is(number, x -> x.ware());
                wares.behind(x -> x.ware(), number, x -> x.ware());
            } else {
                wares.state(x -> x.ware());
            }
        }
        CheckmarkOffice x = Offices.ofWares(20);
        for (int number = 0; number < 20; number++) {
            int of = number;
            Offices.type(x, Offices.WARES[number]);
            due.is(of, () -> x.ware());
            due.is(Offices.WARES[of].length(), () -> x.clear());
        }
        Offices.type(x, "11");
        due.state(() -> x.ware());
        due.state(() -> x.ware());
        due.is(2, () -> x.clear());
    }

    private void meantNeedsDigits() {
        empty.missing(x -> x.meant());
        new Tried(due, () -> Offices.ofWares(1)).missing(x -> x.meant());
        new Tried(due, () -> Offices.ofWares(20)).missing(x -> x.meant());
        some.tells(-1, x -> x.meant());
        full.tells(-1, x -> x.meant());
        digits("1").tells(-1, x -> x.meant());
        digits("123456789").tells(-1, x -> x.meant());
        digits("1234567890").tells(-1, x -> x.meant());
    }

    private long meant(String typed, String... wares) {
        CheckmarkOffice x = Offices.empty();
        for (String ware : wares) {
            Offices.type(x, ware);
            x.ware();
        }
        Offices.type(x, typed);
        return x.meant();
    }

    /** Promise 33: the first digit, the last one, the first two and the last two; none, one and several wares. */
    private void meantOfFewDigits() {
        due.is(0, () -> meant("1", "0"));
        due.is(-2, () -> meant("1", "0", "2"));
        due.is(2, () -> meant("1", "0", "2", "1"));
        due.is(0, () -> meant("1", "1", "2"));
        for (int many = 2; many <= 9; many++) {
            String digits = "012345678".substring(0, many);
            String first = "9" + digits.substring(1);
            String last = digits.substring(0, many - 1) + "9";
            String firstTwo = "10" + digits.substring(2);
            String lastTwo = digits.substring(0, many - 2) + digits.charAt(many - 1) + digits.charAt(many - 2);
            due.is(0, () -> meant(digits, digits, first, last, firstTwo, lastTwo));
            for (String slip : new String[] {first, last, firstTwo, lastTwo}) {
                due.is(0, () -> meant(slip, digits));
                due.is(0, () -> meant(digits, slip));
                due.is(1, () -> meant(slip, "7", digits));
            }
            due.is(-1, () -> meant(digits + "0", digits));
            due.is(-1, () -> meant(digits.substring(1), digits));
            due.is(-1, () -> meant(digits.substring(0, digits.length() - 1), digits));
            due.is(-2, () -> meant(digits, first, last));
            due.is(-2, () -> meant(digits, firstTwo, last));
        }
        due.is(-1, () -> meant("0123456789", "012345678"));
        due.is(-1, () -> meant("321", "123"));
        due.is(-1, () -> meant("2143", "1234"));
        due.is(-1, () -> meant("231", "123"));
        due.is(-1, () -> meant("99", "12"));
        due.is(-1, () -> meant("20", "12"));
        due.is(-1, () -> meant("31", "12"));
    }

    /** Promise 33: the first ware and the twentieth one, alone and with another one. */
    private void meantOfManyWares() {
        CheckmarkOffice x = Offices.ofWares(20);
        String[] typed = {"01", "323", "0000", "000000001", "100000000", "897654321", "2002", "12", "110", "3", "32"};
        int[] meant = {-2, 1, -1, 19, 19, 10, 15, -2, 12, -2, -2};
        for (int row = 0; row < typed.length; row++) {
            int of = row;
            Offices.type(x, typed[row]);
            due.is(meant[of], () -> x.meant());
            due.is(typed[of].length(), () -> x.clear());
        }
        CheckmarkOffice y = Offices.ofWares(8);
        Offices.type(y, "12");
        due.is(0, () -> y.meant());
    }

    /** Promise 34: the wares from 0 on; of one alone there is no next one. */
    private void nextWare() {
        for (int number : new int[] {-1, 20, 21, LEAST, MOST}) {
            all.range(x -> x.nextWare(number));
        }
        empty.range(x -> x.nextWare(0));
        some.range(x -> x.nextWare(3));
        some.tells(1, x -> x.nextWare(0));
        some.tells(2, x -> x.nextWare(1));
        some.tells(-1, x -> x.nextWare(2));
        new Tried(due, () -> Offices.ofWares(1)).tells(-1, x -> x.nextWare(0));
        new Tried(due, () -> Offices.ofWares(1)).range(x -> x.nextWare(1));
        full.tells(16, x -> x.nextWare(2));
        full.tells(10, x -> x.nextWare(16));
        full.tells(-1, x -> x.nextWare(10));
    }

    /** Promise 34: each of 20 wares has its next one as texts have; those that go on stand behind. */
    private void nextWareGoesOn() {
        String[] sorted = Offices.WARES.clone();
        java.util.Arrays.sort(sorted);
        for (int row = 0; row < 20; row++) {
            int of = number(sorted[row]);
            full.tells(row == 19 ? -1 : number(sorted[row + 1]), x -> x.nextWare(of));
        }
        CheckmarkOffice x = Offices.empty();
        for (int many = 9; many >= 1; many--) {
            Offices.type(x, several('5', many));
            x.ware();
        }
        for (int number = 0; number <= 8; number++) {
            int of = number;
            due.is(of - 1, () -> x.nextWare(of));
        }
        due.range(() -> x.nextWare(9));
    }

    private static int number(String digits) {
        return java.util.Arrays.asList(Offices.WARES).indexOf(digits);
    }
}
