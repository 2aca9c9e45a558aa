import java.math.BigInteger;
import java.util.ArrayDeque;
import java.util.ArrayList;
import java.util.Deque;
import java.util.HashMap;
import java.util.List;
import java.util.Map;
import java.util.NoSuchElementException;
import java.util.TreeMap;
import java.util.zip.CRC32C;

/** The document read once more, slowly and with the Java library, to compare the program with. */
final class Model {
    List<Integer> row = new ArrayList<>();
    final Deque<List<Integer>> past = new ArrayDeque<>();
    int width = 32;
    long poly = 0x1EDC6F41L;
    long start = 0xFFFFFFFFL;
    long end = 0xFFFFFFFFL;
    boolean mirrorBytes = true;
    boolean mirrorSum = true;
    final BigInteger[] shelves = new BigInteger[8];
    String digits = "";
    final TreeMap<String, Integer> wares = new TreeMap<>();

    Model() {
        java.util.Arrays.fill(shelves, BigInteger.ZERO);
    }

    // Exceptions.

    private static void range(boolean isFine) {
        if (!isFine) {
            throw new IndexOutOfBoundsException();
        }
    }

    private static void argument(boolean isFine) {
        if (!isFine) {
            throw new IllegalArgumentException();
        }
    }

    private static void state(boolean isFine) {
        if (!isFine) {
            throw new IllegalStateException();
        }
    }

    private static void present(boolean isFine) {
        if (!isFine) {
            throw new NoSuchElementException();
        }
    }

    private static void supported(boolean isFine) {
        if (!isFine) {
            throw new UnsupportedOperationException();
        }
    }

    private static void arithmetic(boolean isFine) {
        if (!isFine) {
            throw new ArithmeticException();
        }
    }

    private static boolean isByte(int value) {
        return value >= 0 && value <= 255;
    }

    private void keep() {
        past.addLast(new ArrayList<>(row));
        if (past.size() > 10) {
            past.removeFirst();
        }
    }

    // Bytes.

    int type(int word, int many) {
        argument(many >= 1 && many <= 4);
        state(row.size() + many <= 64);
        keep();
        for (int i = 0; i < many; i++) {
            row.add(new int[] {word >>> 24, word >>> 16, word >>> 8, word}[i] & 255);
        }
        return row.size();
    }

    int byteAt(int place) {
        range(place >= 0 && place < row.size());
        return row.get(place);
    }

    int put(int place, int value) {
        range(place >= 0 && place < row.size());
        argument(isByte(value));
        keep();
        return row.set(place, value);
    }

    int insert(int place, int value) {
        range(place >= 0 && place <= row.size());
        argument(isByte(value));
        state(row.size() < 64);
        keep();
        row.add(place, value);
        return row.size();
    }

    int drop(int place) {
        range(place >= 0 && place < row.size());
        keep();
        return row.remove(place);
    }

    int wipe() {
        keep();
        int had = row.size();
        row.clear();
        return had;
    }

    int undo() {
        present(!past.isEmpty());
        row = past.removeLast();
        return row.size();
    }

    // Sums.

    private static long crc(List<Integer> bytes) {
        CRC32C crc = new CRC32C();
        for (int value : bytes) {
            crc.update(value);
        }
        return crc.getValue();
    }

    private static long mirrored(long value, int bits) {
        StringBuilder text = new StringBuilder();
        for (int bit = bits - 1; bit >= 0; bit--) {
            text.append((value >> bit) & 1);
        }
        return Long.parseLong(text.reverse().toString(), 2);
    }

    private long kindSum(List<Integer> bytes) {
        long register = start;
        long high = 1L << (width - 1);
        for (int value : bytes) {
            long ordered = mirrorBytes ? mirrored(value, 8) : value;
            for (int bit = 7; bit >= 0; bit--) {
                boolean unlike = ((register & high) != 0) != ((ordered >> bit & 1) != 0);
                register = (register & ~high) << 1;
                if (unlike) {
                    register ^= poly;
                }
            }
        }
        return (mirrorSum ? mirrored(register, width) : register) ^ end;
    }

    long librarySum(int from, int to) {
        range(from >= 0 && from <= to && to <= row.size());
        return crc(row.subList(from, to));
    }

    int kind(int newWidth, int polynomial, int newStart, int newEnd, int mirrors) {
        argument(newWidth >= 1 && newWidth <= 32);
        argument(polynomial % 2 != 0);
        for (int number : new int[] {polynomial, newStart, newEnd}) {
            argument(Integer.toBinaryString(number).length() <= newWidth);
        }
        argument(mirrors >= 0 && mirrors <= 3);
        int old = width;
        width = newWidth;
        poly = Integer.toUnsignedLong(polynomial);
        start = Integer.toUnsignedLong(newStart);
        end = Integer.toUnsignedLong(newEnd);
        mirrorBytes = mirrors == 1 || mirrors == 3;
        mirrorSum = mirrors == 2 || mirrors == 3;
        return old;
    }

    long sum(int from, int to) {
        range(from >= 0 && from <= to && to <= row.size());
        return kindSum(row.subList(from, to));
    }

    long joined(int place) {
        range(place >= 0 && place <= row.size());
        return kindSum(row);
    }

    long changed(int place, int value) {
        range(place >= 0 && place < row.size());
        argument(isByte(value));
        List<Integer> copy = new ArrayList<>(row);
        copy.set(place, value);
        return kindSum(copy);
    }

    long zeros(int many) {
        argument(many >= 0 && many <= 1000000);
        List<Integer> copy = new ArrayList<>(row);
        copy.addAll(java.util.Collections.nCopies(many, 0));
        return kindSum(copy);
    }

    private static long crcWith(List<Integer> bytes, int place, long word) {
        List<Integer> copy = new ArrayList<>(bytes);
        for (int i = 0; i < 4; i++) {
            copy.set(place + i, (int) (word >> (24 - 8 * i)) & 255);
        }
        return crc(copy);
    }

    /** The sum is that with four zeros, turned by what each bit of the word turns: linear equations. */
    int forge(int place, long wanted) {
        range(place >= 0 && place + 4L <= row.size());
        argument(wanted >= 0 && wanted <= 0xFFFFFFFFL);
        long plain = crcWith(row, place, 0);
        long[] effect = new long[32];
        long[] cause = new long[32];
        for (int bit = 0; bit < 32; bit++) {
            effect[bit] = crcWith(row, place, 1L << bit) ^ plain;
            cause[bit] = 1L << bit;
        }
        long left = wanted ^ plain;
        long word = 0;
        for (int pivot = 31; pivot >= 0; pivot--) {
            int with = 0;
            while ((effect[with] >> pivot & 1) == 0 || Long.highestOneBit(effect[with]) != 1L << pivot) {
                with++;
            }
            for (int other = 0; other < 32; other++) {
                if (other != with && (effect[other] >> pivot & 1) != 0) {
                    effect[other] ^= effect[with];
                    cause[other] ^= cause[with];
                }
            }
            if ((left >> pivot & 1) != 0) {
                left ^= effect[with];
                word ^= cause[with];
            }
        }
        keep();
        for (int i = 0; i < 4; i++) {
            row.set(place + i, (int) (word >> (24 - 8 * i)) & 255);
        }
        return (int) word;
    }

    // Polynomials.

    private static boolean isShelf(int shelf) {
        return shelf >= 0 && shelf <= 7;
    }

    private static int degree(BigInteger number) {
        return number.bitLength() - 1;
    }

    private static BigInteger[] divided(BigInteger one, BigInteger other) {
        BigInteger quotient = BigInteger.ZERO;
        BigInteger rest = one;
        while (degree(rest) >= degree(other)) {
            int places = degree(rest) - degree(other);
            quotient = quotient.setBit(places);
            rest = rest.xor(other.shiftLeft(places));
        }
        return new BigInteger[] {quotient, rest};
    }

    private BigInteger kindPolynomial() {
        return BigInteger.ONE.shiftLeft(width).or(BigInteger.valueOf(poly));
    }

    int polynomial(int shelf, int low, int high) {
        range(isShelf(shelf));
        shelves[shelf] = new BigInteger(Integer.toUnsignedString(high)).shiftLeft(32)
                .or(new BigInteger(Integer.toUnsignedString(low)));
        return degree(shelves[shelf]);
    }

    int ofKind(int shelf) {
        range(isShelf(shelf));
        shelves[shelf] = kindPolynomial();
        return degree(shelves[shelf]);
    }

    int bits(int shelf, int part) {
        range(isShelf(shelf));
        argument(part >= 0 && part <= 2);
        return shelves[shelf].shiftRight(32 * part).intValue();
    }

    int join(int to, int one, int other, boolean isProduct) {
        range(isShelf(to) && isShelf(one) && isShelf(other));
        BigInteger result = shelves[one].xor(shelves[other]);
        if (isProduct) {
            result = BigInteger.ZERO;
            for (int bit = 0; bit < shelves[one].bitLength(); bit++) {
                if (shelves[one].testBit(bit)) {
                    result = result.xor(shelves[other].shiftLeft(bit));
                }
            }
        }
        state(degree(result) <= 95);
        shelves[to] = result;
        return degree(result);
    }

    int divide(int to, int rest, int one, int other) {
        range(isShelf(to) && isShelf(rest) && isShelf(one) && isShelf(other));
        argument(to != rest);
        arithmetic(shelves[other].signum() != 0);
        BigInteger[] both = divided(shelves[one], shelves[other]);
        shelves[to] = both[0];
        shelves[rest] = both[1];
        return degree(both[1]);
    }

    int common(int to, int one, int other) {
        range(isShelf(to) && isShelf(one) && isShelf(other));
        BigInteger a = shelves[one];
        BigInteger b = shelves[other];
        while (b.signum() != 0) {
            BigInteger rest = divided(a, b)[1];
            a = b;
            b = rest;
        }
        shelves[to] = a;
        return degree(a);
    }

    int factor(int shelf, int index) {
        range(isShelf(shelf));
        BigInteger left = shelves[shelf];
        supported(degree(left) >= 1 && degree(left) <= 12);
        List<Integer> factors = new ArrayList<>();
        for (int number = 2; degree(left) > 0; number++) {
            BigInteger tried = BigInteger.valueOf(number);
            while (degree(left) > 0 && divided(left, tried)[1].signum() == 0) {
                factors.add(number);
                left = divided(left, tried)[0];
            }
        }
        present(index >= 0 && index < factors.size());
        return factors.get(index);
    }

    int order(int shelf) {
        range(isShelf(shelf));
        BigInteger by = shelves[shelf];
        supported(degree(by) >= 1 && degree(by) <= 12);
        present(by.testBit(0));
        BigInteger power = divided(BigInteger.TWO, by)[1];
        int order = 1;
        while (!power.equals(BigInteger.ONE)) {
            power = divided(power.shiftLeft(1), by)[1];
            order++;
        }
        return order;
    }

    // Slips.

    private static boolean divides(long by, long number) {
        long rest = number;
        int degree = 63 - Long.numberOfLeadingZeros(by);
        for (int bit = 62; bit >= degree; bit--) {
            if ((rest >> bit & 1) != 0) {
                rest ^= by << (bit - degree);
            }
        }
        return rest == 0;
    }

    /** The least number with so many bits, all below the limit, that is divided; 0 if there is none. */
    static long leastDivided(long by, int flips, int limit, int from, long chosen) {
        if (flips == 0) {
            return divides(by, chosen) ? chosen : 0;
        }
        long least = 0;
        for (int bit = from; bit < limit; bit++) {
            long found = leastDivided(by, flips - 1, limit, bit + 1, chosen | 1L << bit);
            if (found != 0 && (least == 0 || found < least)) {
                least = found;
            }
        }
        return least;
    }

    boolean isSeen(int shelf) {
        range(isShelf(shelf));
        arithmetic(shelves[shelf].signum() != 0);
        return divided(shelves[shelf], kindPolynomial())[1].signum() != 0;
    }

    private long slip(int flips) {
        long by = 1L << width | poly;
        for (int bits = 2; bits <= 48; bits++) {
            long found = leastDivided(by, flips - 2, bits - 1, 1, 1L | 1L << (bits - 1));
            if (found != 0) {
                return found;
            }
        }
        return 0;
    }

    int shortest(int flips) {
        argument(flips >= 2 && flips <= 4);
        return slip(flips) == 0 ? -1 : 64 - Long.numberOfLeadingZeros(slip(flips));
    }

    long unseenSlip(int flips) {
        argument(flips >= 2 && flips <= 4);
        long found = slip(flips);
        present(found != 0);
        return found;
    }

    int best(int bestWidth, int bits) {
        argument(bestWidth >= 2 && bestWidth <= 7);
        argument(bits >= 2 && bits <= 20);
        int best = 0;
        int most = 0;
        for (int tried = 1; tried < 1 << bestWidth; tried += 2) {
            int flips = 2;
            while (flips < 5 && leastDivided(1L << bestWidth | tried, flips, bits, 0, 0) == 0) {
                flips++;
            }
            if (flips > most) {
                most = flips;
                best = tried;
            }
        }
        return best;
    }

    // Digits and wares.

    int digit(int digit) {
        argument(digit >= 0 && digit <= 9);
        state(digits.length() < 18);
        digits += digit;
        return digits.length();
    }

    int clear() {
        int had = digits.length();
        digits = "";
        return had;
    }

    private static int product(int a, int b) {
        if (a < 5) {
            return b < 5 ? (a + b) % 5 : (a + b) % 5 + 5;
        }
        return b < 5 ? Math.floorMod(a - b, 5) + 5 : Math.floorMod(a - b, 5);
    }

    private static int checkOf(char scheme, String text) {
        int[] values = new StringBuilder(text).reverse().chars().map(sign -> sign - '0').toArray();
        int total = 0;
        switch (scheme) {
            case 'l':
                for (int i = 0; i < values.length; i++) {
                    int value = i % 2 == 0 ? 2 * values[i] : values[i];
                    total += value > 9 ? value - 9 : value;
                }
                return Math.floorMod(-total, 10);
            case 'e':
                for (int i = 0; i < values.length; i++) {
                    total += values[i] << (i + 1);
                }
                return Math.floorMod(-total, 11);
            case 'n':
                return 98 - new BigInteger(text).multiply(BigInteger.valueOf(100))
                        .mod(BigInteger.valueOf(97)).intValue();
            default:
                for (int i = 0; i < values.length; i++) {
                    int changed = values[i];
                    for (int times = 0; times <= i; times++) {
                        changed = "1576283094".charAt(changed) - '0';
                    }
                    total = product(total, changed);
                }
                int check = 0;
                while (product(total, check) != 0) {
                    check++;
                }
                return check;
        }
    }

    int check(char scheme) {
        argument("lent".indexOf(scheme) >= 0);
        present(!digits.isEmpty());
        return checkOf(scheme, digits);
    }

    private static String swapped(String text, int one, int other) {
        StringBuilder swapped = new StringBuilder(text);
        swapped.setCharAt(one, text.charAt(other));
        swapped.setCharAt(other, text.charAt(one));
        return swapped.toString();
    }

    private static List<String> slipsOf(String text, char slips) {
        List<String> all = new ArrayList<>();
        for (int i = 0; i < text.length(); i++) {
            for (char digit = '0'; digit <= '9'; digit++) {
                StringBuilder slipped = new StringBuilder(text);
                slipped.setCharAt(i, digit);
                if (slips == 's') {
                    all.add(slipped.toString());
                }
                if (slips == 'w' && i + 1 < text.length() && text.charAt(i) == text.charAt(i + 1)) {
                    slipped.setCharAt(i + 1, digit);
                    all.add(slipped.toString());
                }
            }
            int apart = slips == 'n' ? 1 : 2;
            if ((slips == 'n' || slips == 'j') && i + apart < text.length()) {
                all.add(swapped(text, i, i + apart));
            }
        }
        all.removeIf(slipped -> slipped.equals(text));
        return all;
    }

    int unseen(char scheme, char slips) {
        argument("lent".indexOf(scheme) >= 0 && "snjw".indexOf(slips) >= 0);
        present(!digits.isEmpty());
        int count = 0;
        for (String slipped : slipsOf(digits, slips)) {
            count += checkOf(scheme, slipped) == checkOf(scheme, digits) ? 1 : 0;
        }
        return count;
    }

    int ware() {
        present(!digits.isEmpty());
        supported(digits.length() <= 9);
        if (!wares.containsKey(digits)) {
            state(wares.size() < 20);
            wares.put(digits, wares.size());
        }
        return wares.get(digits);
    }

    int meant() {
        present(!digits.isEmpty());
        if (wares.containsKey(digits)) {
            return wares.get(digits);
        }
        int found = -1;
        for (Map.Entry<String, Integer> entry : wares.entrySet()) {
            if (slipsOf(entry.getKey(), 's').contains(digits) || slipsOf(entry.getKey(), 'n').contains(digits)) {
                if (found >= 0) {
                    return -2;
                }
                found = entry.getValue();
            }
        }
        return found;
    }

    int nextWare(int ware) {
        range(wares.containsValue(ware));
        for (Map.Entry<String, Integer> entry : wares.entrySet()) {
            if (entry.getValue() == ware) {
                Map.Entry<String, Integer> next = wares.higherEntry(entry.getKey());
                return next == null ? -1 : next.getValue();
            }
        }
        throw new AssertionError();
    }

    // Sums of sums, chunks, the tree.

    int fletcher() {
        long one = 0;
        long two = 0;
        for (int value : row) {
            one += value;
            two += one;
        }
        return (int) (256 * (two % 255) + one % 255);
    }

    long adler() {
        java.util.zip.Adler32 adler = new java.util.zip.Adler32();
        for (int value : row) {
            adler.update(value);
        }
        return adler.getValue();
    }

    private static int rollingOf(List<Integer> bytes, int place, int window) {
        BigInteger total = BigInteger.ZERO;
        for (int back = 0; back < window; back++) {
            total = total.add(BigInteger.valueOf(31).pow(back).multiply(BigInteger.valueOf(bytes.get(place - back))));
        }
        return total.mod(BigInteger.valueOf(65521)).intValue();
    }

    int rolling(int place, int window) {
        range(place >= 0 && place < row.size());
        argument(window >= 1 && window <= 8);
        present(place - window + 1 >= 0);
        return rollingOf(row, place, window);
    }

    private static List<List<Integer>> cut(List<Integer> bytes, int window, int step) {
        List<List<Integer>> all = new ArrayList<>();
        List<Integer> open = new ArrayList<>();
        for (int place = 0; place < bytes.size(); place++) {
            open.add(bytes.get(place));
            if (place + 1 >= window && rollingOf(bytes, place, window) % step == 0) {
                all.add(open);
                open = new ArrayList<>();
            }
        }
        if (!open.isEmpty()) {
            all.add(open);
        }
        return all;
    }

    private static void chunkArguments(int window, int step) {
        argument(window >= 1 && window <= 8 && step >= 2 && step <= 64);
    }

    int chunks(int window, int step) {
        chunkArguments(window, step);
        return cut(row, window, step).size();
    }

    int chunkEnd(int window, int step, int index) {
        chunkArguments(window, step);
        List<List<Integer>> all = cut(row, window, step);
        range(index >= 0 && index < all.size());
        int place = 0;
        for (List<Integer> chunk : all.subList(0, index + 1)) {
            place += chunk.size();
        }
        return place;
    }

    int stays(int window, int step, int place, int value) {
        chunkArguments(window, step);
        argument(isByte(value));
        range(place >= 0 && place <= row.size());
        List<Integer> longer = new ArrayList<>(row);
        longer.add(place, value);
        Map<List<Integer>, Integer> free = new HashMap<>();
        for (List<Integer> chunk : cut(longer, window, step)) {
            free.merge(chunk, 1, Integer::sum);
        }
        int count = 0;
        for (List<Integer> chunk : cut(row, window, step)) {
            if (free.getOrDefault(chunk, 0) > 0) {
                free.merge(chunk, -1, Integer::sum);
                count++;
            }
        }
        return count;
    }

    private static List<Long> leavesOf(List<Integer> bytes) {
        List<Long> leaves = new ArrayList<>();
        for (int from = 0; from < bytes.size(); from += 4) {
            leaves.add(crc(bytes.subList(from, Math.min(from + 4, bytes.size()))));
        }
        return leaves;
    }

    private static List<Long> levelAbove(List<Long> level) {
        List<Long> above = new ArrayList<>();
        for (int i = 0; i < level.size(); i += 2) {
            if (i + 1 == level.size()) {
                above.add(level.get(i));
                continue;
            }
            List<Integer> eight = new ArrayList<>();
            for (long sum : new long[] {level.get(i), level.get(i + 1)}) {
                for (int shift = 24; shift >= 0; shift -= 8) {
                    eight.add((int) (sum >> shift) & 255);
                }
            }
            above.add(crc(eight));
        }
        return above;
    }

    private static long rootOf(List<Integer> bytes) {
        List<Long> level = leavesOf(bytes);
        while (level.size() > 1) {
            level = levelAbove(level);
        }
        return level.get(0);
    }

    long root() {
        present(!row.isEmpty());
        return rootOf(row);
    }

    long beside(int leaf, int step) {
        List<Long> level = leavesOf(row);
        range(leaf >= 0 && leaf < level.size());
        present(step >= 0);
        int index = leaf;
        for (int i = 0; i < step && level.size() > 1; i++) {
            level = levelAbove(level);
            index /= 2;
        }
        present(level.size() > 1);
        int neighbour = index % 2 == 0 ? index + 1 : index - 1;
        return neighbour < level.size() ? level.get(neighbour) : -1;
    }

    long climbed(int leaf, int word) {
        range(leaf >= 0 && leaf < leavesOf(row).size());
        List<Integer> copy = new ArrayList<>(row);
        for (int i = 0; i < 4 && 4 * leaf + i < row.size(); i++) {
            copy.set(4 * leaf + i, word >>> (24 - 8 * i) & 255);
        }
        return rootOf(copy);
    }
}
