/** All that an office tells of what it holds, as a text: two offices with the same one are in the same state. */
final class Witness {
    private final CheckmarkOffice office;
    private final StringBuilder told = new StringBuilder();

    private Witness(CheckmarkOffice office) {
        this.office = office;
    }

    /** It takes some 200 calls, and leaves the office changed. */
    static String of(CheckmarkOffice office) {
        Witness witness = new Witness(office);
        witness.tellBytes();
        witness.tellShelves();
        witness.tellKind();
        witness.tellDigits();
        witness.tellWares();
        witness.tellPast();
        return witness.told.toString();
    }

    private String tell(String name, Due.Call call) {
        String answer = Due.answerOf(call);
        told.append(name).append(' ').append(answer).append("; ");
        return answer;
    }

    private void tellBytes() {
        for (int place = 0; place < 65; place++) {
            int at = place;
            if (tell("byte", () -> office.byteAt(at)).startsWith("throws")) {
                break;
            }
        }
    }

    private void tellShelves() {
        for (int shelf = 0; shelf < 8; shelf++) {
            for (int part = 0; part < 3; part++) {
                int at = shelf;
                int of = part;
                tell("bits", () -> office.bits(at, of));
            }
        }
    }

    private void tellKind() {
        tell("polynomial", () -> office.ofKind(0));
        tell("low", () -> office.bits(0, 0));
        tell("start and end", () -> office.sum(0, 0));
        for (int place = 0; place < 4; place++) {
            int at = place;
            tell("sum", () -> office.sum(at, at + 1));
        }
        tell("zeros", () -> office.zeros(3));
        tell("width", () -> office.kind(1, 1, 0, 0, 0));
    }

    private void tellDigits() {
        for (char scheme : "lent".toCharArray()) {
            tell("check", () -> office.check(scheme));
        }
        tell("as a ware", () -> office.meant());
        tell("digits", () -> office.clear());
    }

    private void tellWares() {
        for (int number = 0; number < 21; number++) {
            int of = number;
            if (tell("next ware", () -> office.nextWare(of)).startsWith("throws")) {
                break;
            }
        }
        for (String digits : Offices.WARES) {
            Offices.type(office, digits);
            tell("ware", () -> office.meant());
        }
    }

    private void tellPast() {
        for (int back = 0; back < 11; back++) {
            String size = tell("undo", () -> office.undo());
            if (size.startsWith("throws")) {
                break;
            }
            tell("row", () -> office.librarySum(0, Integer.parseInt(size)));
        }
    }
}
