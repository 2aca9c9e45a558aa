/** Offices in which edges are tried. Each call makes a new one, always the same. */
final class Offices {
    /** What a ware's digits are in these offices, by its number. */
    static final String[] WARES = {"10", "223", "9", "0405", "77", "1234", "81", "666", "52", "03",
        "987654321", "39", "111", "60", "4", "2020", "95", "808", "17", "000000000"};

    private Offices() {
    }

    static CheckmarkOffice empty() {
        return new CheckmarkOffice();
    }

    /** Some of all: 10 bytes, 4 kept rows, a kind of the width 16, unlike polynomials, 12 digits, 3 wares. */
    static CheckmarkOffice some() {
        CheckmarkOffice office = new CheckmarkOffice();
        office.type(0x31323334, 4);
        office.type(0x35363738, 4);
        office.type(0x80FF0000, 2);
        office.put(0, 0xC3);
        office.kind(16, 0x1021, 0xFFFF, 0x0102, 1);
        office.polynomial(0, 0b110101, 0);
        office.polynomial(2, 8192, 0);
        office.polynomial(3, 3, 0);
        office.polynomial(4, 4096 + 0x53, 0);
        office.polynomial(5, 1, 0);
        office.polynomial(6, 6, 0);
        office.polynomial(7, 5, Integer.MIN_VALUE);
        addWares(office, 3);
        type(office, "120345678990");
        return office;
    }

    /** As much as there can be: 64 bytes, ten kept rows, polynomials of the degree 95, 18 digits, 20 wares. */
    static CheckmarkOffice full() {
        CheckmarkOffice office = new CheckmarkOffice();
        for (int word = 0; word < 16; word++) {
            office.type(word * 0x0F1D2B35 + 0x00FF8001, 4);
        }
        office.kind(32, 0x04C11DB7, -1, Integer.MIN_VALUE, 2);
        office.polynomial(7, 0, Integer.MIN_VALUE);
        for (int shelf = 0; shelf < 7; shelf++) {
            office.polynomial(shelf, 2 * shelf + 1, 1);
            office.join(shelf, shelf, 7, true);
        }
        office.join(7, 0, 6, false);
        office.join(7, 7, 1, false);
        addWares(office, 20);
        type(office, "314159265358979323");
        return office;
    }

    /** The bytes 1, 2, 3 and so on, each typed alone. */
    static CheckmarkOffice ofBytes(int many) {
        CheckmarkOffice office = new CheckmarkOffice();
        for (int value = 1; value <= many; value++) {
            office.type(value << 24, 1);
        }
        return office;
    }

    static CheckmarkOffice ofDigits(String digits) {
        CheckmarkOffice office = new CheckmarkOffice();
        type(office, digits);
        return office;
    }

    /** The first ones of the wares, with no digits typed then. */
    static CheckmarkOffice ofWares(int many) {
        CheckmarkOffice office = new CheckmarkOffice();
        addWares(office, many);
        return office;
    }

    static void type(CheckmarkOffice office, String digits) {
        office.clear();
        for (char sign : digits.toCharArray()) {
            office.digit(sign - '0');
        }
    }

    private static void addWares(CheckmarkOffice office, int many) {
        for (int number = 0; number < many; number++) {
            type(office, WARES[number]);
            office.ware();
        }
        office.clear();
    }
}
