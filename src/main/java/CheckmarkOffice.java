import java.util.NoSuchElementException;

/** An office of sums that tell a slip. README.md says how it is used, the document what it promises. */
public final class CheckmarkOffice {
    private static final int MOST_BYTES = 64;
    private static final int MOST_DIGITS = 18;
    private static final int MOST_KEPT = 10;
    private static final int SHELVES = 8;
    private static final int SLIP_BITS = 48;
    private static final int MOST_ZEROS = 1000000;
    private static final long HIGHEST_SUM = 0xFFFFFFFFL;
    private static final char[] SCHEMES = {'l', 'e', 'n', 't'};

    private final Row bytes = new Row(MOST_BYTES);
    private final Past past = new Past();
    private final Kind firstKind = new Kind();
    private final Kind toldKind = new Kind();
    private final Kind triedKind = new Kind();
    private final long[] shelfLows = new long[SHELVES];
    private final long[] shelfHighs = new long[SHELVES];
    private final Polynomial oneTaken = new Polynomial();
    private final Polynomial otherTaken = new Polynomial();
    private final Polynomial result = new Polynomial();
    private final Slips slips = new Slips();
    private final Row digits = new Row(MOST_DIGITS);
    private final Schemes schemes = new Schemes();
    private final Wares wares = new Wares();
    private final Row longerRow = new Row(MOST_BYTES + 1);
    private final Chunks chunksNow = new Chunks();
    private final Chunks chunksThen = new Chunks();
    private final Tree tree = new Tree();

    public CheckmarkOffice() {
    }

    // Bytes.

    public int type(int word, int many) throws IllegalArgumentException, IllegalStateException {
        if (many < 1 || many > 4) {
            throw new IllegalArgumentException("a word has 1 to 4 bytes");
        }
        if (bytes.size() > MOST_BYTES - many) {
            throw new IllegalStateException("there would be more than 64 bytes");
        }
        past.keep(bytes);
        for (int index = 0; index < many; index++) {
            bytes.append(byteOfWord(word, index));
        }
        return bytes.size();
    }

    public int byteAt(int place) throws IndexOutOfBoundsException {
        requirePlace(place);
        return bytes.at(place);
    }

    public int put(int place, int value) throws IndexOutOfBoundsException, IllegalArgumentException {
        requirePlace(place);
        requireByte(value);
        past.keep(bytes);
        int old = bytes.at(place);
        bytes.change(place, value);
        return old;
    }

    public int insert(int place, int value)
            throws IndexOutOfBoundsException, IllegalArgumentException, IllegalStateException {
        requirePlaceOrEnd(place);
        requireByte(value);
        if (bytes.size() >= MOST_BYTES) {
            throw new IllegalStateException("there are 64 bytes");
        }
        past.keep(bytes);
        bytes.openAt(place, value);
        return bytes.size();
    }

    public int drop(int place) throws IndexOutOfBoundsException {
        requirePlace(place);
        past.keep(bytes);
        int old = bytes.at(place);
        bytes.closeAt(place);
        return old;
    }

    public int wipe() {
        past.keep(bytes);
        int had = bytes.size();
        bytes.empty();
        return had;
    }

    public int undo() throws NoSuchElementException {
        if (!past.hasSome()) {
            throw new NoSuchElementException("no change is kept");
        }
        past.giveBack(bytes);
        return bytes.size();
    }

    // Sums.

    public long librarySum(int from, int to) throws IndexOutOfBoundsException {
        requireSpan(from, to);
        return Library.sumOf(bytes, from, to);
    }

    public int kind(int width, int polynomial, int start, int end, int mirrors) throws IllegalArgumentException {
        if (width < 1 || width > 32) {
            throw new IllegalArgumentException("a width is 1 to 32");
        }
        if ((polynomial & 1) == 0 || !Kind.fits(polynomial, width)) {
            throw new IllegalArgumentException("a polynomial is odd and has no more bits than the width");
        }
        if (!Kind.fits(start, width) || !Kind.fits(end, width)) {
            throw new IllegalArgumentException("a start and an end have no more bits than the width");
        }
        if (mirrors < 0 || mirrors > 3) {
            throw new IllegalArgumentException("mirrors are 0 to 3");
        }
        int old = toldKind.width();
        toldKind.tell(width, polynomial, start, end, mirrors);
        return old;
    }

    public long sum(int from, int to) throws IndexOutOfBoundsException {
        requireSpan(from, to);
        return toldKind.sumOf(bytes, from, to);
    }

    public long joined(int place) throws IndexOutOfBoundsException {
        requirePlaceOrEnd(place);
        return sumByJoining(place);
    }

    public long changed(int place, int value) throws IndexOutOfBoundsException, IllegalArgumentException {
        requirePlace(place);
        requireByte(value);
        long now = toldKind.sumOf(bytes, 0, bytes.size());
        return toldKind.sumAfterChange(now, bytes.at(place), value, bytes.size() - 1 - place);
    }

    public long zeros(int many) throws IllegalArgumentException {
        if (many < 0 || many > MOST_ZEROS) {
            throw new IllegalArgumentException("there are 0 to 1000000 bytes of 0");
        }
        return toldKind.sumAfterZeros(toldKind.sumOf(bytes, 0, bytes.size()), many);
    }

    public int forge(int place, long wanted) throws IndexOutOfBoundsException, IllegalArgumentException {
        if (place < 0 || place > bytes.size() - 4) {
            throw new IndexOutOfBoundsException("there are no four bytes from there on");
        }
        if (wanted < 0 || wanted > HIGHEST_SUM) {
            throw new IllegalArgumentException("a library's sum is 0 to 4294967295");
        }
        int word = Library.forgedWord(bytes, place, wanted);
        past.keep(bytes);
        for (int index = 0; index < 4; index++) {
            bytes.change(place + index, byteOfWord(word, index));
        }
        return word;
    }

    // Polynomials.

    public int polynomial(int shelf, int low, int high) throws IndexOutOfBoundsException {
        requireShelf(shelf);
        result.become((low & 0xFFFFFFFFL) | ((long) high << 32), 0);
        return putOnShelf(shelf, result);
    }

    public int ofKind(int shelf) throws IndexOutOfBoundsException {
        requireShelf(shelf);
        result.become(toldKind.number(), 0);
        return putOnShelf(shelf, result);
    }

    public int bits(int shelf, int part) throws IndexOutOfBoundsException, IllegalArgumentException {
        requireShelf(shelf);
        if (part < 0 || part > 2) {
            throw new IllegalArgumentException("a part is 0 to 2");
        }
        takeFromShelf(shelf, oneTaken);
        return oneTaken.part(part);
    }

    public int join(int to, int one, int other, boolean isProduct)
            throws IndexOutOfBoundsException, IllegalStateException {
        requireShelf(to);
        takeBoth(one, other);
        if (isProduct && oneTaken.degree() >= 0 && otherTaken.degree() >= 0
                && oneTaken.degree() + otherTaken.degree() > Polynomial.TOP) {
            throw new IllegalStateException("the degree would be above 95");
        }
        if (isProduct) {
            result.becomeProduct(oneTaken, otherTaken);
        } else {
            result.becomeSum(oneTaken, otherTaken);
        }
        return putOnShelf(to, result);
    }

    public int divide(int to, int rest, int one, int other)
            throws IndexOutOfBoundsException, IllegalArgumentException, ArithmeticException {
        requireShelf(to);
        requireShelf(rest);
        takeBoth(one, other);
        if (to == rest) {
            throw new IllegalArgumentException("quotient and rest have the same shelf");
        }
        if (otherTaken.isZero()) {
            throw new ArithmeticException("division by 0");
        }
        oneTaken.leaveRest(otherTaken, result);
        putOnShelf(to, result);
        return putOnShelf(rest, oneTaken);
    }

    public int common(int to, int one, int other) throws IndexOutOfBoundsException {
        requireShelf(to);
        takeBoth(one, other);
        for (int round = 0; round <= 2 * Polynomial.TOP && !otherTaken.isZero(); round++) {
            oneTaken.leaveRest(otherTaken, result);
            result.copy(oneTaken);
            oneTaken.copy(otherTaken);
            otherTaken.copy(result);
        }
        return putOnShelf(to, oneTaken);
    }

    public int factor(int shelf, int index)
            throws IndexOutOfBoundsException, UnsupportedOperationException, NoSuchElementException {
        int number = smallNumberOn(shelf);
        int found = Polynomial.factorOf(number, index);
        if (found == 0) {
            throw new NoSuchElementException("there is no such factor");
        }
        return found;
    }

    public int order(int shelf)
            throws IndexOutOfBoundsException, UnsupportedOperationException, NoSuchElementException {
        int number = smallNumberOn(shelf);
        if ((number & 1) == 0) {
            throw new NoSuchElementException("z divides the polynomial");
        }
        return Polynomial.orderOf(number);
    }

    // Slips.

    public boolean isSeen(int shelf) throws IndexOutOfBoundsException, ArithmeticException {
        requireShelf(shelf);
        takeFromShelf(shelf, oneTaken);
        if (oneTaken.isZero()) {
            throw new ArithmeticException("the slip turns no bit");
        }
        otherTaken.become(toldKind.number(), 0);
        oneTaken.leaveRest(otherTaken, result);
        return !oneTaken.isZero();
    }

    public int shortest(int flips) throws IllegalArgumentException {
        long slip = slipOfKind(flips);
        if (slip == 0) {
            return -1;
        }
        result.become(slip, 0);
        return result.degree() + 1;
    }

    public long unseenSlip(int flips) throws IllegalArgumentException, NoSuchElementException {
        long slip = slipOfKind(flips);
        if (slip == 0) {
            throw new NoSuchElementException("there is none within 48 bits");
        }
        return slip;
    }

    public int best(int width, int bits) throws IllegalArgumentException {
        if (width < 2 || width > 7) {
            throw new IllegalArgumentException("a width is 2 to 7 here");
        }
        if (bits < 2 || bits > 20) {
            throw new IllegalArgumentException("there are 2 to 20 bits");
        }
        int bestPolynomial = 0;
        int mostFlips = 0;
        for (int tried = 1; tried < (1 << width); tried += 2) {
            triedKind.tell(width, tried, 0, 0, 0);
            int flips = slips.fewestFlips(triedKind, bits);
            if (flips > mostFlips) {
                mostFlips = flips;
                bestPolynomial = tried;
            }
        }
        return bestPolynomial;
    }

    // Digits and wares.

    public int digit(int digit) throws IllegalArgumentException, IllegalStateException {
        if (digit < 0 || digit > 9) {
            throw new IllegalArgumentException("a digit is 0 to 9");
        }
        if (digits.size() >= MOST_DIGITS) {
            throw new IllegalStateException("there are 18 digits");
        }
        digits.append(digit);
        return digits.size();
    }

    public int clear() {
        int had = digits.size();
        digits.empty();
        return had;
    }

    public int check(char scheme) throws IllegalArgumentException, NoSuchElementException {
        requireScheme(scheme);
        requireDigits();
        return schemes.checkOf(scheme, digits);
    }

    public int unseen(char scheme, char slips) throws IllegalArgumentException, NoSuchElementException {
        requireScheme(scheme);
        if (slips != 's' && slips != 'n' && slips != 'j' && slips != 'w') {
            throw new IllegalArgumentException("there are no such slips");
        }
        requireDigits();
        return schemes.countUnseen(scheme, slips, digits);
    }

    public int ware() throws NoSuchElementException, UnsupportedOperationException, IllegalStateException {
        requireDigits();
        if (digits.size() > Wares.WARE_DIGITS) {
            throw new UnsupportedOperationException("a ware has at most 9 digits");
        }
        int number = wares.numberOf(digits);
        if (number >= 0) {
            return number;
        }
        if (wares.isFull()) {
            throw new IllegalStateException("there are 20 wares");
        }
        return wares.added(digits);
    }

    public int meant() throws NoSuchElementException {
        requireDigits();
        int number = wares.numberOf(digits);
        return number >= 0 ? number : wares.numberNear(digits);
    }

    public int nextWare(int ware) throws IndexOutOfBoundsException {
        if (!wares.has(ware)) {
            throw new IndexOutOfBoundsException("there is no such ware");
        }
        return wares.numberBehind(ware);
    }

    // Sums of sums, chunks, the tree.

    public int fletcher() {
        int total = 0;
        int totalOfTotals = 0;
        for (int place = 0; place < bytes.size(); place++) {
            total = (total + bytes.at(place)) % 255;
            totalOfTotals = (totalOfTotals + total) % 255;
        }
        return 256 * totalOfTotals + total;
    }

    public long adler() {
        int total = 1;
        int totalOfTotals = 0;
        for (int place = 0; place < bytes.size(); place++) {
            total = (total + bytes.at(place)) % 65521;
            totalOfTotals = (totalOfTotals + total) % 65521;
        }
        return 65536L * totalOfTotals + total;
    }

    public int rolling(int place, int window)
            throws IndexOutOfBoundsException, IllegalArgumentException, NoSuchElementException {
        requirePlace(place);
        requireWindow(window);
        if (place < window - 1) {
            throw new NoSuchElementException("there are not so many bytes up to there");
        }
        return Chunks.rollingSum(bytes, place, window);
    }

    public int chunks(int window, int step) throws IllegalArgumentException {
        requireWindow(window);
        requireStep(step);
        chunksNow.cut(bytes, window, step);
        return chunksNow.count();
    }

    public int chunkEnd(int window, int step, int index)
            throws IllegalArgumentException, IndexOutOfBoundsException {
        requireWindow(window);
        requireStep(step);
        chunksNow.cut(bytes, window, step);
        if (index < 0 || index >= chunksNow.count()) {
            throw new IndexOutOfBoundsException("there is no such chunk");
        }
        return chunksNow.endOf(index);
    }

    public int stays(int window, int step, int place, int value)
            throws IllegalArgumentException, IndexOutOfBoundsException {
        requireWindow(window);
        requireStep(step);
        requireByte(value);
        requirePlaceOrEnd(place);
        longerRow.copy(bytes);
        longerRow.openAt(place, value);
        chunksNow.cut(bytes, window, step);
        chunksThen.cut(longerRow, window, step);
        return chunksNow.countIn(chunksThen);
    }

    public long root() throws NoSuchElementException {
        if (bytes.size() == 0) {
            throw new NoSuchElementException("there are no bytes");
        }
        tree.grow(bytes);
        return tree.topSum();
    }

    public long beside(int leaf, int step) throws IndexOutOfBoundsException, NoSuchElementException {
        requireLeaf(leaf);
        tree.grow(bytes);
        if (step < 0 || step >= tree.steps()) {
            throw new NoSuchElementException("there is no such step");
        }
        return tree.sumBeside(leaf, step);
    }

    public long climbed(int leaf, int word) throws IndexOutOfBoundsException {
        requireLeaf(leaf);
        tree.grow(bytes);
        int many = Math.min(Tree.LEAF_BYTES, bytes.size() - Tree.LEAF_BYTES * leaf);
        return tree.topSumWith(leaf, Library.sumOfWord(word, many));
    }

    public boolean isSound() {
        long due = Library.sumOf(bytes, 0, bytes.size());
        return firstKind.sumOf(bytes, 0, bytes.size()) == due
                && joinsEverywhere() && forgesItself(due) && schemesSee();
    }

    private boolean joinsEverywhere() {
        long due = toldKind.sumOf(bytes, 0, bytes.size());
        for (int place = 0; place <= bytes.size(); place++) {
            if (sumByJoining(place) != due) {
                return false;
            }
        }
        return true;
    }

    private boolean forgesItself(long due) {
        if (bytes.size() < 4) {
            return true;
        }
        int word = Library.forgedWord(bytes, 0, due);
        for (int index = 0; index < 4; index++) {
            if (byteOfWord(word, index) != bytes.at(index)) {
                return false;
            }
        }
        return true;
    }

    private boolean schemesSee() {
        if (digits.size() == 0) {
            return true;
        }
        for (char scheme : SCHEMES) {
            if (schemes.countUnseen(scheme, 's', digits) != 0) {
                return false;
            }
            if (scheme != 'l' && schemes.countUnseen(scheme, 'n', digits) != 0) {
                return false;
            }
        }
        return true;
    }

    private long sumByJoining(int place) {
        long ahead = toldKind.sumOf(bytes, 0, place);
        long behind = toldKind.sumOf(bytes, place, bytes.size());
        return toldKind.sumOfBoth(ahead, behind, bytes.size() - place);
    }

    private long slipOfKind(int flips) {
        if (flips < 2 || flips > 4) {
            throw new IllegalArgumentException("there are 2 to 4 turned bits");
        }
        return slips.leastUnseen(toldKind, flips);
    }

    private boolean hasShelf(int shelf) {
        return shelf >= 0 && shelf < shelfLows.length && shelf < shelfHighs.length;
    }

    private int putOnShelf(int shelf, Polynomial from) {
        if (hasShelf(shelf)) {
            shelfLows[shelf] = from.low;
            shelfHighs[shelf] = from.high;
        }
        return from.degree();
    }

    private void takeFromShelf(int shelf, Polynomial into) {
        if (hasShelf(shelf)) {
            into.become(shelfLows[shelf], shelfHighs[shelf]);
        }
    }

    private void takeBoth(int shelf, int otherShelf) {
        requireShelf(shelf);
        requireShelf(otherShelf);
        takeFromShelf(shelf, oneTaken);
        takeFromShelf(otherShelf, otherTaken);
    }

    private int smallNumberOn(int shelf) {
        requireShelf(shelf);
        takeFromShelf(shelf, oneTaken);
        if (oneTaken.degree() < 1 || oneTaken.degree() > Polynomial.SMALL_TOP) {
            throw new UnsupportedOperationException("the degree is not 1 to 12");
        }
        return oneTaken.part(0);
    }

    private void requirePlace(int place) {
        if (!bytes.has(place)) {
            throw new IndexOutOfBoundsException("there is no such place");
        }
    }

    private void requirePlaceOrEnd(int place) {
        if (place < 0 || place > bytes.size()) {
            throw new IndexOutOfBoundsException("there is no such place");
        }
    }

    private void requireSpan(int from, int to) {
        if (from < 0 || to < from || to > bytes.size()) {
            throw new IndexOutOfBoundsException("there is no such span");
        }
    }

    private void requireLeaf(int leaf) {
        if (leaf < 0 || leaf >= Tree.leavesOf(bytes)) {
            throw new IndexOutOfBoundsException("there is no such leaf");
        }
    }

    private void requireShelf(int shelf) {
        if (!hasShelf(shelf)) {
            throw new IndexOutOfBoundsException("there is no such shelf");
        }
    }

    private void requireDigits() {
        if (digits.size() == 0) {
            throw new NoSuchElementException("no digits are typed");
        }
    }

    private static void requireByte(int value) {
        if (value < 0 || value > 255) {
            throw new IllegalArgumentException("a byte is 0 to 255");
        }
    }

    private static void requireWindow(int window) {
        if (window < 1 || window > 8) {
            throw new IllegalArgumentException("a window has 1 to 8 bytes");
        }
    }

    private static void requireStep(int step) {
        if (step < 2 || step > 64) {
            throw new IllegalArgumentException("a step is 2 to 64");
        }
    }

    private static void requireScheme(char scheme) {
        for (char known : SCHEMES) {
            if (known == scheme) {
                return;
            }
        }
        throw new IllegalArgumentException("there is no such scheme");
    }

    private static int byteOfWord(int word, int index) {
        return (word >>> (24 - 8 * index)) & 255;
    }

    /** Small numbers in a row, which has room for so many. */
    private static final class Row {
        private final int[] values;
        private int size;

        Row(int room) {
            values = new int[Math.max(room, 0)];
        }

        int size() {
            return size;
        }

        boolean has(int place) {
            return place >= 0 && place < size;
        }

        int at(int place) {
            return place >= 0 && place < values.length ? values[place] : 0;
        }

        void change(int place, int value) {
            if (place >= 0 && place < values.length) {
                values[place] = value;
            }
        }

        void append(int value) {
            openAt(size, value);
        }

        void openAt(int place, int value) {
            if (size >= values.length || place < 0 || place > size) {
                return;
            }
            for (int moved = size; moved > place; moved--) {
                change(moved, at(moved - 1));
            }
            change(place, value);
            size++;
        }

        void closeAt(int place) {
            if (!has(place)) {
                return;
            }
            for (int moved = place; moved < size - 1; moved++) {
                change(moved, at(moved + 1));
            }
            size--;
        }

        void empty() {
            size = 0;
        }

        void copy(Row model) {
            size = Math.min(model.size, values.length);
            for (int place = 0; place < size; place++) {
                change(place, model.at(place));
            }
        }

        /** Below 0, 0 or above 0, as texts are: what goes on stands behind what it goes on from. */
        int compareAsText(Row compared) {
            int both = Math.min(size, compared.size());
            for (int place = 0; place < both; place++) {
                if (at(place) != compared.at(place)) {
                    return at(place) - compared.at(place);
                }
            }
            return size - compared.size();
        }
    }

    /** Rows that are kept side by side in one array, so that no call makes new ones. */
    private static final class Store {
        private final int room;
        private final int[] values;
        private final int[] sizes;

        Store(int rows, int room) {
            this.room = Math.max(room, 0);
            values = new int[Math.max(rows, 0) * this.room];
            sizes = new int[Math.max(rows, 0)];
        }

        void write(int index, Row row) {
            if (index < 0 || index >= sizes.length) {
                return;
            }
            int size = Math.min(row.size(), room);
            sizes[index] = size;
            for (int place = 0; place < size; place++) {
                int cell = index * room + place;
                if (cell < values.length) {
                    values[cell] = row.at(place);
                }
            }
        }

        void read(int index, Row row) {
            row.empty();
            if (index < 0 || index >= sizes.length) {
                return;
            }
            for (int place = 0; place < sizes[index]; place++) {
                int cell = index * room + place;
                if (cell < values.length) {
                    row.append(values[cell]);
                }
            }
        }
    }

    /** What the row of bytes was, the latest ten times. */
    private static final class Past {
        private final Store store = new Store(MOST_KEPT, MOST_BYTES);
        private int next;
        private int kept;

        boolean hasSome() {
            return kept > 0;
        }

        void keep(Row row) {
            store.write(next, row);
            next = (next + 1) % MOST_KEPT;
            kept = Math.min(kept + 1, MOST_KEPT);
        }

        void giveBack(Row row) {
            next = (next + MOST_KEPT - 1) % MOST_KEPT;
            kept = Math.max(kept - 1, 0);
            store.read(next, row);
        }
    }

    /** The library's sum, written out mirrored, since then bytes and sum need no turning round. */
    private static final class Library {
        private static final int MIRRORED_POLYNOMIAL = 0x82F63B78;

        static long sumOf(Row row, int from, int to) {
            return sumOfRegister(registerBehind(row, from, to));
        }

        static long sumOfWord(int word, int many) {
            return sumOfRegister(fedWord(-1, word, many));
        }

        static long sumOfPair(long first, long second) {
            return sumOfRegister(fedWord(fedWord(-1, (int) first, 4), (int) second, 4));
        }

        /** Goes on from the front and back from the wanted sum; the four bytes must close the gap between. */
        static int forgedWord(Row row, int place, long wanted) {
            int ahead = registerBehind(row, 0, place);
            int behind = ~(int) wanted;
            for (int back = row.size() - 1; back > place + 3; back--) {
                behind = movedBack(behind) ^ row.at(back);
            }
            for (int index = 0; index < 4; index++) {
                behind = movedBack(behind);
            }
            int gap = ahead ^ behind;
            return (gap << 24) | ((gap & 0xFF00) << 8) | ((gap >>> 8) & 0xFF00) | (gap >>> 24);
        }

        private static long sumOfRegister(int register) {
            return ~register & HIGHEST_SUM;
        }

        private static int registerBehind(Row row, int from, int to) {
            int register = -1;
            for (int place = from; place < to; place++) {
                register = moved(register ^ row.at(place));
            }
            return register;
        }

        private static int fedWord(int register, int word, int many) {
            int fed = register;
            for (int index = 0; index < many; index++) {
                fed = moved(fed ^ byteOfWord(word, index));
            }
            return fed;
        }

        private static int moved(int register) {
            int moved = register;
            for (int bit = 0; bit < 8; bit++) {
                moved = (moved & 1) == 0 ? moved >>> 1 : (moved >>> 1) ^ MIRRORED_POLYNOMIAL;
            }
            return moved;
        }

        /** The polynomial's highest bit is set, and so tells whether the register was turned. */
        private static int movedBack(int register) {
            int moved = register;
            for (int bit = 0; bit < 8; bit++) {
                moved = moved >= 0 ? moved << 1 : ((moved ^ MIRRORED_POLYNOMIAL) << 1) | 1;
            }
            return moved;
        }
    }

    /** A kind of sums; at first that of the library. Registers are told by their lowest bits. */
    private static final class Kind {
        private int width = 32;
        private int polynomial = 0x1EDC6F41;
        private int start = -1;
        private int end = -1;
        private boolean mirrorsBytes = true;
        private boolean mirrorsSum = true;

        static boolean fits(int number, int width) {
            return width >= 32 || number >>> width == 0;
        }

        void tell(int newWidth, int newPolynomial, int newStart, int newEnd, int mirrors) {
            width = newWidth;
            polynomial = newPolynomial;
            start = newStart;
            end = newEnd;
            mirrorsBytes = (mirrors & 1) != 0;
            mirrorsSum = (mirrors & 2) != 0;
        }

        int width() {
            return width;
        }

        long number() {
            return (1L << width) | (polynomial & 0xFFFFFFFFL);
        }

        long sumOf(Row row, int from, int to) {
            int register = start;
            for (int place = from; place < to; place++) {
                register = fed(register, row.at(place));
            }
            return sumOfRegister(register);
        }

        /** The second sum began with the start too, which thus is taken out of the first one. */
        long sumOfBoth(long ahead, long behind, int bytesBehind) {
            int moved = timesPowerOfZ(registerOfSum(ahead) ^ start, 8 * bytesBehind);
            return sumOfRegister(moved ^ registerOfSum(behind));
        }

        long sumAfterChange(long sum, int old, int value, int bytesBehind) {
            int difference = timesPowerOfZ(fed(0, old ^ value), 8 * bytesBehind);
            return sumOfRegister(registerOfSum(sum) ^ difference);
        }

        long sumAfterZeros(long sum, int many) {
            return sumOfRegister(timesPowerOfZ(registerOfSum(sum), 8 * many));
        }

        int timesZ(int register) {
            int moved = (register << 1) & (-1 >>> (32 - width));
            return ((register >>> (width - 1)) & 1) == 0 ? moved : moved ^ polynomial;
        }

        private int fed(int register, int value) {
            int ordered = mirrorsBytes ? mirrored(value, 8) : value;
            int fed = register;
            for (int bit = 7; bit >= 0; bit--) {
                fed = timesZ(fed ^ (((ordered >>> bit) & 1) << (width - 1)));
            }
            return fed;
        }

        private long sumOfRegister(int register) {
            return ((mirrorsSum ? mirrored(register, width) : register) ^ end) & HIGHEST_SUM;
        }

        private int registerOfSum(long sum) {
            int turned = (int) sum ^ end;
            return mirrorsSum ? mirrored(turned, width) : turned;
        }

        private int timesPowerOfZ(int register, int power) {
            int product = register;
            int square = timesZ(1);
            for (int bit = 0; bit < 31 && (power >>> bit) != 0; bit++) {
                if (((power >>> bit) & 1) != 0) {
                    product = times(product, square);
                }
                square = times(square, square);
            }
            return product;
        }

        private int times(int factor, int otherFactor) {
            int product = 0;
            for (int bit = width - 1; bit >= 0; bit--) {
                product = timesZ(product);
                if (((otherFactor >>> bit) & 1) != 0) {
                    product ^= factor;
                }
            }
            return product;
        }

        private static int mirrored(int value, int bits) {
            int mirrored = 0;
            for (int bit = 0; bit < bits; bit++) {
                mirrored = (mirrored << 1) | ((value >>> bit) & 1);
            }
            return mirrored;
        }
    }

    /** A polynomial over two: the bits 0 to 63 of its number in low, 64 to 95 in high. */
    private static final class Polynomial {
        static final int TOP = 95;
        static final int SMALL_TOP = 12;
        private long low;
        private long high;

        void become(long newLow, long newHigh) {
            low = newLow;
            high = newHigh;
        }

        void copy(Polynomial model) {
            become(model.low, model.high);
        }

        boolean isZero() {
            return low == 0 && high == 0;
        }

        int degree() {
            for (int power = TOP; power >= 0; power--) {
                if (hasPower(power)) {
                    return power;
                }
            }
            return -1;
        }

        int part(int part) {
            return part == 0 ? (int) low : part == 1 ? (int) (low >>> 32) : (int) high;
        }

        void becomeSum(Polynomial first, Polynomial second) {
            become(first.low ^ second.low, first.high ^ second.high);
        }

        void becomeProduct(Polynomial first, Polynomial second) {
            become(0, 0);
            for (int power = 0; power <= TOP; power++) {
                if (first.hasPower(power)) {
                    addMoved(second.low, second.high, power);
                }
            }
        }

        void leaveRest(Polynomial divisor, Polynomial quotient) {
            int degree = divisor.degree();
            quotient.become(0, 0);
            for (int power = TOP; degree >= 0 && power >= degree; power--) {
                if (hasPower(power)) {
                    addMoved(divisor.low, divisor.high, power - degree);
                    quotient.addMoved(1, 0, power - degree);
                }
            }
        }

        private boolean hasPower(int power) {
            long fromThere = power < 64 ? low >>> power : high >>> (power - 64);
            return (fromThere & 1) != 0;
        }

        /** Bits that would move above bit 63 of one half are those that come into the other one. */
        private void addMoved(long addedLow, long addedHigh, int places) {
            if (places == 0) {
                low ^= addedLow;
                high ^= addedHigh;
            } else if (places < 64) {
                low ^= addedLow << places;
                high ^= (addedHigh << places) | (addedLow >>> (64 - places));
            } else {
                high ^= addedLow << (places - 64);
            }
        }

        /** Of the number of a small polynomial the factor with this index, 0 if there is none. */
        static int factorOf(int number, int index) {
            int left = number;
            int found = 0;
            for (int tried = 2; left > 1 && tried <= number; tried++) {
                // With no factor up to half its degree, what is left is one itself.
                int factor = 2 * smallDegree(tried) > smallDegree(left) ? left : tried;
                for (int times = 0; times < SMALL_TOP && left > 1; times++) {
                    int division = smallDivision(left, factor);
                    if ((division & 0xFFFF) != 0) {
                        break;
                    }
                    if (found == index) {
                        return factor;
                    }
                    found++;
                    left = division >>> 16;
                }
            }
            return 0;
        }

        /** Each power leaves one of less than 2 to the 12th rests, so that they come back to 1 by then. */
        static int orderOf(int number) {
            int degree = smallDegree(number);
            int rest = 1;
            for (int power = 1; power <= 1 << SMALL_TOP; power++) {
                rest <<= 1;
                if (((rest >>> degree) & 1) != 0) {
                    rest ^= number;
                }
                if (rest == 1) {
                    return power;
                }
            }
            return 0;
        }

        private static int smallDegree(int number) {
            int degree = -1;
            for (int power = 0; power <= SMALL_TOP; power++) {
                if (((number >>> power) & 1) != 0) {
                    degree = power;
                }
            }
            return degree;
        }

        /** The quotient, times 2 to the 16th, and the rest, so that one pass tells both. */
        private static int smallDivision(int number, int divisor) {
            int degree = smallDegree(divisor);
            int rest = number;
            int quotient = 0;
            for (int power = SMALL_TOP; degree >= 0 && power >= degree; power--) {
                if (((rest >>> power) & 1) != 0) {
                    rest ^= divisor << (power - degree);
                    quotient |= 1 << (power - degree);
                }
            }
            return (quotient << 16) | rest;
        }
    }

    /** Slips that a kind does not see: powers of z whose rests by its polynomial cancel out. */
    private static final class Slips {
        private final int[] rests = new int[SLIP_BITS];

        /** The shortest one of so many turned bits, of these the least one; 0 if there is none. */
        long leastUnseen(Kind kind, int flips) {
            findRests(kind, SLIP_BITS);
            return leastWithin(flips, SLIP_BITS);
        }

        int fewestFlips(Kind kind, int bits) {
            findRests(kind, bits);
            for (int flips = 2; flips <= 4; flips++) {
                if (leastWithin(flips, bits) != 0) {
                    return flips;
                }
            }
            return 5;
        }

        private void findRests(Kind kind, int bits) {
            int rest = 1;
            for (int power = 0; power < bits && power < rests.length; power++) {
                rests[power] = rest;
                rest = kind.timesZ(rest);
            }
        }

        /** An odd polynomial that divides a slip divides it moved down to the bit 0 too: all begin there. */
        private long leastWithin(int flips, int bits) {
            for (int last = 1; last < bits && last < rests.length; last++) {
                int wanted = rests[last] ^ 1;
                long between = flips == 2 ? (wanted == 0 ? 0 : -1)
                        : flips == 3 ? oneBelow(last, wanted) : twoBelow(last, wanted);
                if (between >= 0) {
                    return (1L << last) | between | 1;
                }
            }
            return 0;
        }

        private long oneBelow(int limit, int wanted) {
            for (int power = 1; power < limit && power < rests.length; power++) {
                if (rests[power] == wanted) {
                    return 1L << power;
                }
            }
            return -1;
        }

        private long twoBelow(int limit, int wanted) {
            for (int power = 2; power < limit && power < rests.length; power++) {
                long lower = oneBelow(power, wanted ^ rests[power]);
                if (lower >= 0) {
                    return (1L << power) | lower;
                }
            }
            return -1;
        }
    }

    /** The schemes by which digits have a check. */
    private static final class Schemes {
        private static final int[] CHANGED = {1, 5, 7, 6, 2, 8, 3, 0, 9, 4};
        private final Row slipped = new Row(MOST_DIGITS);
        private final int[] changedOften = new int[10 * (MOST_DIGITS + 1)];

        Schemes() {
            for (int cell = 0; cell < changedOften.length; cell++) {
                int less = cell < 10 ? -1 : changedOften[cell - 10];
                changedOften[cell] = less >= 0 && less < CHANGED.length ? CHANGED[less] : cell;
            }
        }

        int checkOf(char scheme, Row row) {
            if (scheme == 'l') {
                return checkByDoubling(row);
            }
            if (scheme == 'e') {
                return checkByEleven(row);
            }
            return scheme == 'n' ? checkByNinetySeven(row) : checkByTen(row);
        }

        int countUnseen(char scheme, char slips, Row row) {
            if (slips == 's') {
                return unseenChanges(scheme, row, 1);
            }
            if (slips == 'w') {
                return unseenChanges(scheme, row, 2);
            }
            return unseenSwaps(scheme, row, slips == 'n' ? 1 : 2);
        }

        /** Digits that are alike, so many of them side by side, become another one. */
        private int unseenChanges(char scheme, Row row, int many) {
            int due = checkOf(scheme, row);
            int count = 0;
            for (int place = 0; place + many <= row.size(); place++) {
                int last = place + many - 1;
                for (int digit = 0; digit <= 9; digit++) {
                    if (row.at(place) == row.at(last) && row.at(place) != digit) {
                        slipped.copy(row);
                        slipped.change(place, digit);
                        slipped.change(last, digit);
                        count += checkOf(scheme, slipped) == due ? 1 : 0;
                    }
                }
            }
            return count;
        }

        private int unseenSwaps(char scheme, Row row, int apart) {
            int due = checkOf(scheme, row);
            int count = 0;
            for (int place = 0; place + apart < row.size(); place++) {
                if (row.at(place) != row.at(place + apart)) {
                    slipped.copy(row);
                    slipped.change(place, row.at(place + apart));
                    slipped.change(place + apart, row.at(place));
                    count += checkOf(scheme, slipped) == due ? 1 : 0;
                }
            }
            return count;
        }

        private static int checkByDoubling(Row row) {
            int total = 0;
            boolean isDoubled = true;
            for (int place = row.size() - 1; place >= 0; place--) {
                int value = isDoubled ? 2 * row.at(place) : row.at(place);
                total += value > 9 ? value - 9 : value;
                isDoubled = !isDoubled;
            }
            return (10 - total % 10) % 10;
        }

        private static int checkByEleven(Row row) {
            int total = 0;
            for (int place = 0; place < row.size(); place++) {
                total = (2 * total + 2 * row.at(place)) % 11;
            }
            return (11 - total) % 11;
        }

        private static int checkByNinetySeven(Row row) {
            int rest = 0;
            for (int place = 0; place < row.size(); place++) {
                rest = (10 * rest + row.at(place)) % 97;
            }
            return 98 - 100 * rest % 97;
        }

        private int checkByTen(Row row) {
            int product = 0;
            for (int place = row.size() - 1; place >= 0; place--) {
                int cell = 10 * (row.size() - place) + row.at(place);
                product = productOf(product, cell >= 0 && cell < changedOften.length ? changedOften[cell] : 0);
            }
            for (int digit = 0; digit <= 9; digit++) {
                if (productOf(product, digit) == 0) {
                    return digit;
                }
            }
            return 0;
        }

        private static int productOf(int first, int second) {
            int rest = first < 5 ? (first + second) % 5 : (first - second + 10) % 5;
            return (first < 5) == (second < 5) ? rest : rest + 5;
        }
    }

    /** The wares, each with its digits. */
    private static final class Wares {
        static final int WARE_DIGITS = 9;
        private static final int MOST = 20;
        private final Store store = new Store(MOST, WARE_DIGITS);
        private final Row ware = new Row(WARE_DIGITS);
        private final Row nextOne = new Row(WARE_DIGITS);
        private final Row tried = new Row(WARE_DIGITS);
        private int count;

        boolean has(int number) {
            return number >= 0 && number < count;
        }

        boolean isFull() {
            return count >= MOST;
        }

        int added(Row digits) {
            store.write(count, digits);
            count++;
            return count - 1;
        }

        int numberOf(Row digits) {
            for (int number = 0; number < count; number++) {
                store.read(number, tried);
                if (tried.compareAsText(digits) == 0) {
                    return number;
                }
            }
            return -1;
        }

        /** The only one that a slip makes these digits; -1 if there is none, -2 if there are several. */
        int numberNear(Row digits) {
            int found = -1;
            for (int number = 0; number < count; number++) {
                store.read(number, tried);
                if (isOneSlip(tried, digits)) {
                    if (found >= 0) {
                        return -2;
                    }
                    found = number;
                }
            }
            return found;
        }

        int numberBehind(int number) {
            int found = -1;
            store.read(number, ware);
            for (int candidate = 0; candidate < count; candidate++) {
                store.read(candidate, tried);
                if (tried.compareAsText(ware) > 0 && (found < 0 || tried.compareAsText(nextOne) < 0)) {
                    found = candidate;
                    nextOne.copy(tried);
                }
            }
            return found;
        }

        private static boolean isOneSlip(Row row, Row digits) {
            if (row.size() != digits.size()) {
                return false;
            }
            int unlike = 0;
            int last = 0;
            for (int place = 0; place < row.size(); place++) {
                if (row.at(place) != digits.at(place)) {
                    unlike++;
                    last = place;
                }
            }
            return unlike == 1 || unlike == 2 && last > 0
                    && row.at(last - 1) == digits.at(last) && row.at(last) == digits.at(last - 1);
        }
    }

    /** The chunks of a row, as one was cut last. */
    private static final class Chunks {
        private final Row row = new Row(MOST_BYTES + 1);
        private final int[] ends = new int[MOST_BYTES + 1];
        private final boolean[] taken = new boolean[MOST_BYTES + 1];
        private int count;

        static int rollingSum(Row row, int place, int window) {
            int total = 0;
            for (int back = window - 1; back >= 0; back--) {
                total = (31 * total + row.at(place - back)) % 65521;
            }
            return total;
        }

        void cut(Row model, int window, int step) {
            row.copy(model);
            count = 0;
            for (int place = 0; place < row.size(); place++) {
                if ((isCut(place, window, step) || place == row.size() - 1) && count < ends.length) {
                    ends[count] = place + 1;
                    count++;
                }
            }
        }

        int count() {
            return count;
        }

        int endOf(int index) {
            return index >= 0 && index < ends.length ? ends[index] : 0;
        }

        int countIn(Chunks others) {
            int found = 0;
            others.freeAll();
            for (int index = 0; index < count; index++) {
                found += others.takes(this, index) ? 1 : 0;
            }
            return found;
        }

        private boolean isCut(int place, int window, int step) {
            return place >= window - 1 && step > 0 && rollingSum(row, place, window) % step == 0;
        }

        private void freeAll() {
            for (int index = 0; index < taken.length; index++) {
                taken[index] = false;
            }
        }

        private boolean takes(Chunks others, int index) {
            for (int own = 0; own < count && own < taken.length; own++) {
                if (!taken[own] && isLike(own, others, index)) {
                    taken[own] = true;
                    return true;
                }
            }
            return false;
        }

        private boolean isLike(int own, Chunks others, int index) {
            int from = endOf(own - 1);
            int otherFrom = others.endOf(index - 1);
            int size = endOf(own) - from;
            if (others.endOf(index) - otherFrom != size) {
                return false;
            }
            for (int place = 0; place < size; place++) {
                if (row.at(from + place) != others.row.at(otherFrom + place)) {
                    return false;
                }
            }
            return true;
        }
    }

    /** The tree, as it grew last: its levels of sums one behind the other, from the leaves on. */
    private static final class Tree {
        static final int LEAF_BYTES = 4;
        private static final int MOST_LEAVES = 16;
        private final long[] sums = new long[5 * MOST_LEAVES];
        private final int[] sizes = new int[5];
        private int levels;

        static int leavesOf(Row row) {
            return (row.size() + LEAF_BYTES - 1) / LEAF_BYTES;
        }

        void grow(Row row) {
            int leaves = Math.min(leavesOf(row), MOST_LEAVES);
            for (int leaf = 0; leaf < leaves; leaf++) {
                int from = LEAF_BYTES * leaf;
                setSum(0, leaf, Library.sumOf(row, from, Math.min(from + LEAF_BYTES, row.size())));
            }
            sizes[0] = leaves;
            levels = 1;
            for (int level = 1; level < sizes.length && sizes[level - 1] > 1; level++) {
                growLevel(level, sizes[level - 1]);
                sizes[level] = (sizes[level - 1] + 1) / 2;
                levels = level + 1;
            }
        }

        int steps() {
            return levels - 1;
        }

        long topSum() {
            return sumAt(levels - 1, 0);
        }

        long sumBeside(int leaf, int step) {
            int index = (leaf >> step) ^ 1;
            return step >= 0 && step < sizes.length && index < sizes[step] ? sumAt(step, index) : -1;
        }

        long topSumWith(int leaf, long leafSum) {
            long climbing = leafSum;
            for (int step = 0; step < steps(); step++) {
                long neighbour = sumBeside(leaf, step);
                if (neighbour >= 0) {
                    climbing = ((leaf >> step) & 1) == 0 ? Library.sumOfPair(climbing, neighbour)
                            : Library.sumOfPair(neighbour, climbing);
                }
            }
            return climbing;
        }

        private void growLevel(int level, int below) {
            for (int index = 0; index < below; index += 2) {
                long first = sumAt(level - 1, index);
                setSum(level, index / 2,
                        index + 1 < below ? Library.sumOfPair(first, sumAt(level - 1, index + 1)) : first);
            }
        }

        private long sumAt(int level, int index) {
            int cell = MOST_LEAVES * level + index;
            return cell >= 0 && cell < sums.length ? sums[cell] : 0;
        }

        private void setSum(int level, int index, long sum) {
            int cell = MOST_LEAVES * level + index;
            if (cell >= 0 && cell < sums.length) {
                sums[cell] = sum;
            }
        }
    }
}
