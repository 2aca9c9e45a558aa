/** Promises 28 to 34: digits with checks, and wares. */
public final class DigitsTest {
    private static final String SCHEMES = "lent";

    private final Due due = new Due();

    public static void main(String[] arguments) {
        new DigitsTest().run();
    }

    private void run() {
        digit();
        clear();
        checks();
        checkOfEachDigit();
        checkRefuses();
        unseen();
        unseenRefuses();
        ware();
        twentyWares();
        meant();
        meantEdges();
        nextWare();
        due.end();
    }

    static CheckmarkOffice typed(String digits) {
        CheckmarkOffice office = new CheckmarkOffice();
        type(office, digits);
        return office;
    }

    private static void type(CheckmarkOffice office, String digits) {
        office.clear();
        for (char sign : digits.toCharArray()) {
            office.digit(sign - '0');
        }
    }

    private static int ware(CheckmarkOffice office, String digits) {
        type(office, digits);
        return office.ware();
    }

    private static int meant(CheckmarkOffice office, String digits) {
        type(office, digits);
        return office.meant();
    }

    private void digit() {
        CheckmarkOffice x = new CheckmarkOffice();
        due.is(1, () -> x.digit(0));
        due.is(2, () -> x.digit(9));
        due.argument(() -> x.digit(10));
        due.argument(() -> x.digit(-1));
        due.argument(() -> x.digit(Integer.MIN_VALUE));
        for (int many = 3; many <= 18; many++) {
            due.is(many, () -> x.digit(5));
        }
        due.state(() -> x.digit(5));
        due.argument(() -> x.digit(10));
        due.is(18, () -> x.clear());
    }

    private void clear() {
        CheckmarkOffice x = typed("123");
        due.is(3, () -> x.clear());
        due.is(0, () -> x.clear());
        due.missing(() -> x.check('l'));
        due.is(1, () -> x.digit(7));
    }

    private void check(String digits, int doubled, int byEleven, int byNinetySeven, int byTen) {
        CheckmarkOffice x = typed(digits);
        due.is(doubled, () -> x.check('l'));
        due.is(byEleven, () -> x.check('e'));
        due.is(byNinetySeven, () -> x.check('n'));
        due.is(byTen, () -> x.check('t'));
        due.is(digits.length(), () -> x.clear());
    }

    private void checks() {
        check("236", 0, 4, 69, 3);
        due.is(3, () -> typed("7992739871").check('l'));
        due.is(44, () -> typed("794").check('n'));
        due.is(1, () -> typed("12345").check('t'));
        due.is(0, () -> typed("142857").check('t'));
        due.is(10, () -> typed("6").check('e'));
        check("0", 0, 0, 98, 4);
        check("00", 0, 0, 98, 6);
        Model model = new Model();
        for (String digits : new String[] {"999999999999999999", "123456789012345678", "000000000000000001",
            "908172635445362718", "97", "9", "5", "4999", "0123456789"}) {
            model.digits = digits;
            check(digits, model.check('l'), model.check('e'), model.check('n'), model.check('t'));
        }
    }

    /** The checks of one digit, as the document's own words make them, one by one. */
    private void checkOfEachDigit() {
        int[] doubled = {0, 8, 6, 4, 2, 9, 7, 5, 3, 1};
        int[] byEleven = {0, 9, 7, 5, 3, 1, 10, 8, 6, 4};
        int[] byNinetySeven = {98, 95, 92, 89, 86, 83, 80, 77, 74, 71};
        int[] byTen = {4, 5, 7, 6, 3, 8, 2, 0, 9, 1};
        for (int digit = 0; digit <= 9; digit++) {
            check(Integer.toString(digit), doubled[digit], byEleven[digit], byNinetySeven[digit], byTen[digit]);
        }
    }

    private void checkRefuses() {
        CheckmarkOffice x = new CheckmarkOffice();
        for (char scheme : new char[] {'x', 'L', 's', 'j', 0, 'm', 'k', (char) 65535, ' '}) {
            due.argument(() -> x.check(scheme));
        }
        for (char scheme : SCHEMES.toCharArray()) {
            due.missing(() -> x.check(scheme));
        }
        x.digit(1);
        due.argument(() -> x.check('x'));
    }

    private void unseen() {
        due.is(1, () -> typed("09").unseen('l', 'n'));
        due.is(1, () -> typed("90").unseen('l', 'n'));
        due.is(3, () -> typed("0909").unseen('l', 'n'));
        due.is(1, () -> typed("123").unseen('l', 'j'));
        due.is(0, () -> typed("121").unseen('l', 'j'));
        due.is(1, () -> typed("22").unseen('l', 'w'));
        due.is(1, () -> typed("55").unseen('l', 'w'));
        due.is(0, () -> typed("23").unseen('l', 'w'));
        due.is(0, () -> typed("1").unseen('l', 'n'));
        due.is(0, () -> typed("12").unseen('l', 'j'));
        Model model = new Model();
        for (String digits : new String[] {"7", "11", "236", "090990", "112233445566778899", "999999999999999999",
            "102030405060708090", "5052837465", "384756", "00", "3003"}) {
            model.digits = digits;
            for (char scheme : SCHEMES.toCharArray()) {
                for (char slips : "snjw".toCharArray()) {
                    due.is(model.unseen(scheme, slips), () -> typed(digits).unseen(scheme, slips));
                }
                due.is(0, () -> typed(digits).unseen(scheme, 's'));
            }
        }
        CheckmarkOffice x = typed("09");
        x.unseen('t', 'w');
        x.unseen('l', 's');
        due.is(0, () -> x.ware());
        due.is(0, () -> ware(x, "09"));
    }

    private void unseenRefuses() {
        CheckmarkOffice x = new CheckmarkOffice();
        due.argument(() -> x.unseen('x', 's'));
        due.argument(() -> x.unseen('l', 'x'));
        due.argument(() -> x.unseen('s', 's'));
        due.argument(() -> x.unseen('l', 'l'));
        due.argument(() -> x.unseen('l', (char) 0));
        for (char slips : "snjw".toCharArray()) {
            due.missing(() -> x.unseen('t', slips));
        }
        x.digit(3);
        due.argument(() -> x.unseen('l', 'S'));
        due.argument(() -> x.unseen('E', 's'));
    }

    private void ware() {
        CheckmarkOffice x = new CheckmarkOffice();
        due.missing(() -> x.ware());
        due.is(0, () -> ware(x, "1"));
        due.is(1, () -> ware(x, "01"));
        due.is(2, () -> ware(x, "123456789"));
        due.is(9, () -> x.clear());
        due.is(0, () -> ware(x, "1"));
        due.is(3, () -> ware(x, "10"));
        due.is(1, () -> ware(x, "01"));
        type(x, "1234567890");
        due.unsupported(() -> x.ware());
        due.is(10, () -> x.clear());
        due.missing(() -> x.ware());
        due.is(4, () -> ware(x, "000000000"));
        due.range(() -> x.nextWare(5));
    }

    private void twentyWares() {
        CheckmarkOffice x = new CheckmarkOffice();
        for (int number = 0; number < 20; number++) {
            int at = number;
            due.is(number, () -> ware(x, Integer.toString(1000 + 37 * at)));
        }
        type(x, "1001");
        due.state(() -> x.ware());
        due.is(0, () -> x.meant());
        due.is(19, () -> ware(x, Integer.toString(1000 + 37 * 19)));
        type(x, "1234567890");
        due.unsupported(() -> x.ware());
        due.is(-1, () -> x.nextWare(19));
        due.range(() -> x.nextWare(20));
        x.clear();
        due.missing(() -> x.ware());
    }

    private void meant() {
        CheckmarkOffice x = new CheckmarkOffice();
        due.missing(() -> x.meant());
        due.is(-1, () -> meant(x, "1"));
        ware(x, "1234");
        ware(x, "1243");
        ware(x, "5555");
        due.is(0, () -> meant(x, "1234"));
        due.is(1, () -> meant(x, "1243"));
        due.is(0, () -> meant(x, "2134"));
        due.is(0, () -> meant(x, "1324"));
        due.is(0, () -> meant(x, "9234"));
        due.is(1, () -> meant(x, "1249"));
        due.is(-2, () -> meant(x, "1233"));
        due.is(-2, () -> meant(x, "1244"));
        due.is(-1, () -> meant(x, "3214"));
        due.is(-1, () -> meant(x, "4231"));
        due.is(1, () -> meant(x, "2143"));
        due.is(-1, () -> meant(x, "2139"));
        due.is(2, () -> meant(x, "5550"));
        due.is(-1, () -> meant(x, "5500"));
        due.is(-1, () -> meant(x, "555"));
        due.is(-1, () -> meant(x, "55555"));
        due.is(-1, () -> meant(x, "9999"));
        x.clear();
        due.missing(() -> x.meant());
    }

    private void meantEdges() {
        CheckmarkOffice x = new CheckmarkOffice();
        ware(x, "7");
        ware(x, "123456789");
        ware(x, "12");
        due.is(0, () -> meant(x, "3"));
        due.is(1, () -> meant(x, "213456789"));
        due.is(1, () -> meant(x, "123456798"));
        due.is(1, () -> meant(x, "123456780"));
        due.is(-1, () -> meant(x, "1234567890"));
        due.is(-1, () -> meant(x, "123456789012345678"));
        due.is(2, () -> meant(x, "21"));
        due.is(-1, () -> meant(x, "23"));
        due.is(-1, () -> meant(x, "20"));
        due.is(-1, () -> meant(x, "31"));
        ware(x, "21");
        due.is(-2, () -> meant(x, "11"));
        due.is(3, () -> meant(x, "31"));
    }

    private void nextWare() {
        CheckmarkOffice x = new CheckmarkOffice();
        due.range(() -> x.nextWare(0));
        String[] digits = {"10", "9", "1", "100", "09", "0", "101", "123456789", "12345678"};
        for (String one : digits) {
            ware(x, one);
        }
        int[] next = {3, -1, 0, 6, 2, 4, 8, 1, 7};
        for (int number = 0; number < next.length; number++) {
            int at = number;
            due.is(next[number], () -> x.nextWare(at));
        }
        due.range(() -> x.nextWare(9));
        due.range(() -> x.nextWare(-1));
        due.range(() -> x.nextWare(Integer.MIN_VALUE));
        due.range(() -> x.nextWare(Integer.MAX_VALUE));
    }
}
