import java.util.Random;

/** Long runs of calls, the same ones each time, on the program and on the model of the document. */
public final class ModelRunsTest {
    private static final int RUNS = 240;
    private static final int CALLS = 512;
    private static final String[] GROUPS = {"bskpfdwct", "bbbs", "kbssf", "kppp", "kkf", "dddddw", "dw", "bct", "bbct"};
    private static final int[] FAR = {Integer.MIN_VALUE, -1000, -2, -1, 64, 65, 1000, Integer.MAX_VALUE - 1,
        Integer.MAX_VALUE};

    private final Random random;
    private final CheckmarkOffice office = new CheckmarkOffice();
    private final Model model = new Model();
    private final int values;
    private final int digitValues;
    private String call;
    private Due.Call officeCall;
    private Due.Call modelCall;

    private ModelRunsTest(int run) {
        random = new Random(run);
        values = new int[] {256, 2, 5, 256}[run % 4];
        digitValues = new int[] {10, 10, 2}[run % 3];
    }

    public static void main(String[] arguments) {
        Due due = new Due();
        for (int run = 0; run < RUNS; run++) {
            new ModelRunsTest(run).run(due, run);
        }
        due.end();
    }

    private void run(Due due, int run) {
        String group = GROUPS[run % GROUPS.length];
        for (int number = 0; number < CALLS; number++) {
            choose(group.charAt(random.nextInt(group.length())));
            String told = "run " + run + ", call " + number + ", " + call + ": ";
            due.compare(told + Due.answerOf(modelCall), told + Due.answerOf(officeCall));
        }
    }

    private void set(String told, Due.Call made, Due.Call modelled) {
        call = told;
        officeCall = made;
        modelCall = modelled;
    }

    private int number(int from, int to) {
        if (random.nextInt(40) == 0) {
            return FAR[random.nextInt(FAR.length)];
        }
        int wider = random.nextInt(12) == 0 ? 1 : 0;
        return from - wider + random.nextInt(to - from + 1 + 2 * wider);
    }

    private int place() {
        return number(0, Math.max(model.row.size() - 1, 0));
    }

    private int value() {
        return number(0, values - 1);
    }

    private int word() {
        if (values == 256) {
            return random.nextInt();
        }
        int word = 0;
        for (int index = 0; index < 4; index++) {
            word = word << 8 | random.nextInt(values);
        }
        return word;
    }

    private int shelf() {
        return number(0, 7);
    }

    private int thin() {
        return random.nextBoolean() ? random.nextInt() >>> random.nextInt(32) : random.nextInt(8192);
    }

    private char scheme() {
        return "lentlentlentlentxLs\u0000\u00ff".charAt(random.nextInt(21));
    }

    private void choose(char group) {
        switch (group) {
            case 'b': chooseBytes(); break;
            case 's': chooseSums(); break;
            case 'k': chooseKind(); break;
            case 'p': choosePolynomials(); break;
            case 'f': chooseSlips(); break;
            case 'd': chooseDigits(); break;
            case 'w': chooseWares(); break;
            case 'c': chooseChunks(); break;
            default: chooseTree(); break;
        }
    }

    private void chooseBytes() {
        int place = place();
        int value = value();
        int word = word();
        int many = number(1, 4);
        switch (random.nextInt(12)) {
            case 0: set("byteAt " + place, () -> office.byteAt(place), () -> model.byteAt(place)); break;
            case 1: set("put " + place + " " + value, () -> office.put(place, value),
                    () -> model.put(place, value)); break;
            case 2: case 3: set("insert " + place + " " + value, () -> office.insert(place, value),
                    () -> model.insert(place, value)); break;
            case 4: set("drop " + place, () -> office.drop(place), () -> model.drop(place)); break;
            case 5:
                if (random.nextInt(8) == 0) {
                    set("wipe", () -> office.wipe(), () -> model.wipe());
                    break;
                }
                set("byteAt " + place, () -> office.byteAt(place), () -> model.byteAt(place)); break;
            case 6: case 7: set("undo", () -> office.undo(), () -> model.undo()); break;
            default: set("type " + word + " " + many, () -> office.type(word, many), () -> model.type(word, many));
        }
    }

    private void chooseSums() {
        int place = place();
        int from = number(0, model.row.size());
        int to = number(0, model.row.size());
        int value = number(0, 255);
        int many = random.nextInt(60) == 0 ? number(0, 1000000) : number(0, 300);
        long wanted = random.nextInt(10) == 0 ? random.nextLong() : random.nextLong() & 0xFFFFFFFFL;
        switch (random.nextInt(6)) {
            case 0: set("librarySum " + from + " " + to, () -> office.librarySum(from, to),
                    () -> model.librarySum(from, to)); break;
            case 1: set("sum " + from + " " + to, () -> office.sum(from, to), () -> model.sum(from, to)); break;
            case 2: set("joined " + from, () -> office.joined(from), () -> model.joined(from)); break;
            case 3: set("changed " + place + " " + value, () -> office.changed(place, value),
                    () -> model.changed(place, value)); break;
            case 4: set("zeros " + many, () -> office.zeros(many), () -> model.zeros(many)); break;
            default: set("forge " + place + " " + wanted, () -> office.forge(place, wanted),
                    () -> model.forge(place, wanted));
        }
    }

    private void chooseKind() {
        int width = number(1, 32);
        int shift = width < 1 || width > 32 ? 0 : 32 - width;
        int looser = random.nextInt(10) == 0 ? Math.max(shift - 1, 0) : shift;
        int polynomial = random.nextInt() >>> looser | (random.nextInt(12) == 0 ? 0 : 1);
        int start = random.nextInt() >>> (random.nextInt(10) == 0 ? looser : shift);
        int end = random.nextInt() >>> (random.nextInt(10) == 0 ? looser : shift);
        int mirrors = number(0, 3);
        if (random.nextInt(8) == 0) {
            set("isSound", () -> office.isSound() ? 1 : 0, () -> 1);
            return;
        }
        set("kind " + width + " " + polynomial + " " + start + " " + end + " " + mirrors,
                () -> office.kind(width, polynomial, start, end, mirrors),
                () -> model.kind(width, polynomial, start, end, mirrors));
    }

    private void choosePolynomials() {
        int shelf = shelf();
        int rest = shelf();
        int one = shelf();
        int other = shelf();
        int low = thin();
        int high = random.nextInt(3) == 0 ? random.nextInt() : 0;
        int index = number(0, 5);
        boolean isProduct = random.nextInt(3) != 0;
        switch (random.nextInt(9)) {
            case 0: case 1: set("polynomial " + shelf + " " + low + " " + high,
                    () -> office.polynomial(shelf, low, high), () -> model.polynomial(shelf, low, high)); break;
            case 2: set("ofKind " + shelf, () -> office.ofKind(shelf), () -> model.ofKind(shelf)); break;
            case 3: int part = number(0, 2);
                set("bits " + shelf + " " + part, () -> office.bits(shelf, part), () -> model.bits(shelf, part)); break;
            case 4: set("join " + shelf + " " + one + " " + other + " " + isProduct,
                    () -> office.join(shelf, one, other, isProduct),
                    () -> model.join(shelf, one, other, isProduct)); break;
            case 5: set("divide " + shelf + " " + rest + " " + one + " " + other,
                    () -> office.divide(shelf, rest, one, other), () -> model.divide(shelf, rest, one, other)); break;
            case 6: set("common " + shelf + " " + one + " " + other, () -> office.common(shelf, one, other),
                    () -> model.common(shelf, one, other)); break;
            case 7: set("factor " + shelf + " " + index, () -> office.factor(shelf, index),
                    () -> model.factor(shelf, index)); break;
            default: set("order " + shelf, () -> office.order(shelf), () -> model.order(shelf));
        }
    }

    private void chooseSlips() {
        int flips = number(2, 4);
        int shelf = shelf();
        int width = number(2, 7);
        int bits = number(2, random.nextInt(20) == 0 ? 20 : 9);
        switch (random.nextInt(5)) {
            case 0: set("shortest " + flips, () -> office.shortest(flips), () -> model.shortest(flips)); break;
            case 1: set("unseenSlip " + flips, () -> office.unseenSlip(flips), () -> model.unseenSlip(flips)); break;
            case 2: set("best " + width + " " + bits, () -> office.best(width, bits),
                    () -> model.best(width, bits)); break;
            case 3: set("isSeen " + shelf, () -> office.isSeen(shelf) ? 1 : 0, () -> model.isSeen(shelf) ? 1 : 0); break;
            default: choosePolynomials();
        }
    }

    private void chooseDigits() {
        int digit = number(0, digitValues - 1);
        char scheme = scheme();
        char slips = random.nextInt(15) == 0 ? scheme() : "snjw".charAt(random.nextInt(4));
        switch (random.nextInt(9)) {
            case 0: set("check " + (int) scheme, () -> office.check(scheme), () -> model.check(scheme)); break;
            case 1: case 2: set("unseen " + (int) scheme + " " + (int) slips, () -> office.unseen(scheme, slips),
                    () -> model.unseen(scheme, slips)); break;
            case 3:
                if (random.nextInt(4) == 0) {
                    set("clear", () -> office.clear(), () -> model.clear());
                    break;
                }
                set("digit " + digit, () -> office.digit(digit), () -> model.digit(digit)); break;
            default: set("digit " + digit, () -> office.digit(digit), () -> model.digit(digit));
        }
    }

    private void chooseWares() {
        int ware = number(0, Math.max(model.wares.size() - 1, 0));
        switch (random.nextInt(5)) {
            case 0: case 1: set("ware", () -> office.ware(), () -> model.ware()); break;
            case 2: set("meant", () -> office.meant(), () -> model.meant()); break;
            case 3: set("nextWare " + ware, () -> office.nextWare(ware), () -> model.nextWare(ware)); break;
            default: set("clear", () -> office.clear(), () -> model.clear());
        }
    }

    private void chooseChunks() {
        int window = number(1, random.nextInt(3) == 0 ? 8 : 3);
        int step = number(2, random.nextInt(2) == 0 ? 64 : 5);
        int index = number(0, 4);
        int place = number(0, model.row.size());
        int value = value();
        switch (random.nextInt(6)) {
            case 0: set("fletcher", () -> office.fletcher(), () -> model.fletcher()); break;
            case 1: set("adler", () -> office.adler(), () -> model.adler()); break;
            case 2: set("rolling " + place + " " + window, () -> office.rolling(place, window),
                    () -> model.rolling(place, window)); break;
            case 3: set("chunks " + window + " " + step, () -> office.chunks(window, step),
                    () -> model.chunks(window, step)); break;
            case 4: set("chunkEnd " + window + " " + step + " " + index, () -> office.chunkEnd(window, step, index),
                    () -> model.chunkEnd(window, step, index)); break;
            default: set("stays " + window + " " + step + " " + place + " " + value,
                    () -> office.stays(window, step, place, value), () -> model.stays(window, step, place, value));
        }
    }

    private void chooseTree() {
        int leaf = number(0, Math.max((model.row.size() + 3) / 4 - 1, 0));
        int step = number(0, 3);
        int word = random.nextInt();
        switch (random.nextInt(3)) {
            case 0: set("root", () -> office.root(), () -> model.root()); break;
            case 1: set("beside " + leaf + " " + step, () -> office.beside(leaf, step),
                    () -> model.beside(leaf, step)); break;
            default: set("climbed " + leaf + " " + word, () -> office.climbed(leaf, word),
                    () -> model.climbed(leaf, word));
        }
    }
}
