import java.util.Arrays;

/**
 * Eight kinds of codes for the numbers 1 to 2^62 whose codewords tell their own ends, a row of
 * bits that they are written to and read from, and a list of numbers to try them on.
 */
public final class SelfEndingCodes {
    public static final int NONE = -1;

    private static final int UNARY = 0;
    private static final int GAMMA = 1;
    private static final int DELTA = 2;
    private static final int OMEGA = 3;
    private static final int FIBONACCI = 4;
    private static final int GOLOMB = 5;
    private static final int EXP_GOLOMB = 6;
    private static final int GROUPED = 7;

    private static final int MOST_BITS_OF_NUMBER = 63;
    private static final int BITS_BELOW_GREATEST = 62;
    private static final long GREATEST = 1L << BITS_BELOW_GREATEST;
    private static final long GREATEST_FOLDED = GREATEST / 2;

    private static final int ROW_ROOM = 4096;
    private static final int WORD_BITS = 64;
    private static final int LIST_ROOM = 100;

    private static final int MOST_TRIED = 500;
    private static final int LONGEST_COUNTED = 200;
    private static final int LONGEST_BEGUN = 62;

    // The 89th of 1, 2, 3, 5, .. is the last that is not above 2^62.
    private static final int FIBONACCI_NUMBERS = 89;
    // No number takes more than the four of 2^62: this only lets the end of a loop be seen.
    private static final int OMEGA_GROUPS = 8;
    // Halving 1 .. 2^62 + 1 ends within 63 steps: this only lets the end of a loop be seen.
    private static final int HALVINGS = 64;

    private final BitRow row;
    private final long[] list;
    private final long[] fibonacci;
    private int listed;

    public SelfEndingCodes() {
        row = new BitRow();
        list = new long[LIST_ROOM];
        listed = 0;
        fibonacci = new long[FIBONACCI_NUMBERS];
        fibonacci[0] = 1;
        fibonacci[1] = 2;
        for (int i = 2; i < FIBONACCI_NUMBERS; i++) {
            fibonacci[i] = fibonacci[i - 1] + fibonacci[i - 2];
        }
    }

    // ---- one number

    public long length(int kind, int p, long n) throws IllegalArgumentException {
        requireCode(kind, p);
        requireNumber(n);
        return codewordLength(kind, p, n);
    }

    public int put(int kind, int p, long n) throws IllegalArgumentException {
        requireCode(kind, p);
        requireNumber(n);
        return appendIfRoom(kind, p, n) ? row.end : NONE;
    }

    public long take(int kind, int p) throws IllegalArgumentException {
        requireCode(kind, p);
        return readNext(kind, p);
    }

    // ---- the row

    public int push(long v, int n) throws IllegalArgumentException {
        if (n < 1 || n > WORD_BITS) {
            throw new IllegalArgumentException("1 to 64 bits can be pushed");
        }
        if (n > row.room()) {
            return NONE;
        }
        row.appendBits(v >>> (WORD_BITS - n), n);
        return row.end;
    }

    public long bits(int i) {
        long answer = 0;
        for (int k = 0; k < WORD_BITS; k++) {
            // As a long, since i + k may lie beyond the greatest int.
            answer = (answer << 1) | row.bitAt((long) i + k);
        }
        return answer;
    }

    public int size() {
        return row.end;
    }

    public int place() {
        return row.place;
    }

    public void seek(int place) throws IndexOutOfBoundsException {
        if (place < 0 || place > row.end) {
            throw new IndexOutOfBoundsException("the row has no such place");
        }
        row.place = place;
    }

    public int wipe() {
        int had = row.end;
        row.makeEmpty();
        return had;
    }

    // ---- the list

    public int add(long n) throws IllegalArgumentException {
        requireNumber(n);
        if (listed >= LIST_ROOM) {
            return NONE;
        }
        list[listed] = n;
        listed++;
        return listed;
    }

    public long get(int i) throws IndexOutOfBoundsException {
        if (i < 0 || i >= listed) {
            throw new IndexOutOfBoundsException("the list has no such number");
        }
        return list[i];
    }

    public int clear() {
        int had = listed;
        listed = 0;
        return had;
    }

    public long total(int kind, int p) throws IllegalArgumentException {
        requireCode(kind, p);
        return listLength(kind, p);
    }

    public int best(int kind, int most) throws IllegalArgumentException {
        if (kind < GOLOMB || most > MOST_TRIED || !isCode(kind, most)) {
            throw new IllegalArgumentException("no such parameters to choose from");
        }
        int answer = leastParameter(kind);
        long shortest = listLength(kind, answer);
        for (int p = answer + 1; p <= most; p++) {
            long tried = listLength(kind, p);
            if (tried < shortest) {
                shortest = tried;
                answer = p;
            }
        }
        return answer;
    }

    public int putAll(int kind, int p) throws IllegalArgumentException {
        requireCode(kind, p);
        for (int i = 0; i < listed; i++) {
            if (!appendIfRoom(kind, p, list[i])) {
                return i;
            }
        }
        return listed;
    }

    public int takeAll(int kind, int p) throws IllegalArgumentException {
        requireCode(kind, p);
        listed = 0;
        for (int i = 0; i < LIST_ROOM; i++) {
            long n = readNext(kind, p);
            if (n == NONE) {
                break;
            }
            list[i] = n;
            listed = i + 1;
        }
        return listed;
    }

    // ---- all codewords of one length

    public long count(int kind, int p, int length) throws IllegalArgumentException {
        requireCode(kind, p);
        requireLength(length, LONGEST_COUNTED);
        return leastReaching(kind, p, length + 1) - leastReaching(kind, p, length);
    }

    public long first(int kind, int p, int length) throws IllegalArgumentException {
        requireCode(kind, p);
        requireLength(length, LONGEST_COUNTED);
        long least = leastReaching(kind, p, length);
        boolean found = least <= GREATEST && codewordLength(kind, p, least) == length;
        return found ? least : NONE;
    }

    public long begun(int kind, int p, int length) throws IllegalArgumentException {
        requireCode(kind, p);
        requireLength(length, LONGEST_BEGUN);
        long rows = 0;
        long least = 1;
        for (int bits = 1; bits <= length; bits++) {
            long next = leastReaching(kind, p, bits + 1);
            // A row that begins with a codeword does so with either bit behind it; no codeword
            // begins with another one, so no row is counted twice.
            rows = 2 * rows + (next - least);
            least = next;
        }
        return rows;
    }

    // ---- numbers with sign

    public long fold(long v) throws IllegalArgumentException {
        if (v > GREATEST_FOLDED || v <= -GREATEST_FOLDED) {
            throw new IllegalArgumentException("what stands for it is above 2^62");
        }
        return v > 0 ? 2 * v : 1 - 2 * v;
    }

    public long unfold(long n) throws IllegalArgumentException {
        requireNumber(n);
        return n % 2 == 0 ? n / 2 : (1 - n) / 2;
    }

    // ---- what there is

    private static int leastParameter(int kind) {
        return kind == GOLOMB || kind == GROUPED ? 1 : 0;
    }

    private static int greatestParameter(int kind) {
        switch (kind) {
            case GOLOMB:
                return 1000000;
            case EXP_GOLOMB:
                return 40;
            case GROUPED:
                return 16;
            default:
                return 0;
        }
    }

    private static boolean isCode(int kind, int p) {
        return kind >= UNARY && kind <= GROUPED
            && p >= leastParameter(kind) && p <= greatestParameter(kind);
    }

    private static void requireCode(int kind, int p) {
        if (!isCode(kind, p)) {
            throw new IllegalArgumentException("no such kind or parameter");
        }
    }

    private static void requireNumber(long n) {
        if (n < 1 || n > GREATEST) {
            throw new IllegalArgumentException("no such number");
        }
    }

    private static void requireLength(int length, int longest) {
        if (length < 0 || length > longest) {
            throw new IllegalArgumentException("no such length");
        }
    }

    // ---- lengths

    private long codewordLength(int kind, int p, long n) {
        switch (kind) {
            case UNARY:
                return n;
            case GAMMA:
                return gammaLength(n);
            case DELTA:
                return gammaLength(bitLength(n)) + bitLength(n) - 1;
            case OMEGA:
                return omegaLength(n);
            case FIBONACCI:
                return fibonacciLength(n);
            case GOLOMB:
                return golombLength(p, n);
            case EXP_GOLOMB:
                return gammaLength(((n - 1) >> p) + 1) + p;
            default:
                return (long) groupsOf(p, n) * (p + 1);
        }
    }

    private static int bitLength(long n) {
        return WORD_BITS - Long.numberOfLeadingZeros(n);
    }

    private static int gammaLength(long n) {
        return 2 * bitLength(n) - 1;
    }

    private static int omegaLength(long n) {
        int bits = 1;
        long rest = n;
        for (int group = 0; group < OMEGA_GROUPS && rest > 1; group++) {
            int width = bitLength(rest);
            bits += width;
            rest = width - 1;
        }
        return bits;
    }

    private int fibonacciLength(long n) {
        int low = 0;
        int high = FIBONACCI_NUMBERS - 1;
        for (int step = 0; step < HALVINGS && low < high; step++) {
            int middle = (low + high + 1) / 2;
            if (fibonacci[middle] <= n) {
                low = middle;
            } else {
                high = middle - 1;
            }
        }
        return low + 2;
    }

    private static long golombLength(int p, long n) {
        long quotient = (n - 1) / p;
        long rest = (n - 1) % p;
        int width = golombWidth(p);
        return quotient + (rest < golombShortRests(p, width) ? width : width + 1);
    }

    /** The document's c: how many bits a rest has that is not one of the short ones. */
    private static int golombWidth(int p) {
        return bitLength(p - 1);
    }

    /** How many rests, from 0 on, do with one bit less. */
    private static long golombShortRests(int p, int width) {
        return (1L << width) - p;
    }

    private static int groupsOf(int p, long n) {
        return Math.max(1, (bitLength(n - 1) + p - 1) / p);
    }

    private long listLength(int kind, int p) {
        long bits = 0;
        for (int i = 0; i < listed; i++) {
            long more = codewordLength(kind, p, list[i]);
            // Asked this way round, since the sum may be 2^63, which is no long.
            if (more > GREATEST - bits) {
                return GREATEST;
            }
            bits += more;
        }
        return bits;
    }

    /**
     * The least number whose codeword has so many bits or more, 2^62 + 1 if there is none. By
     * every kind, no number's codeword is shorter than that of the number before it, so this
     * can be found by halving, and the numbers with codewords of one length stand together.
     */
    private long leastReaching(int kind, int p, int length) {
        long low = 1;
        long high = GREATEST + 1;
        for (int step = 0; step < HALVINGS && low < high; step++) {
            long middle = low + (high - low) / 2;
            if (codewordLength(kind, p, middle) < length) {
                low = middle + 1;
            } else {
                high = middle;
            }
        }
        return low;
    }

    // ---- writing

    private boolean appendIfRoom(int kind, int p, long n) {
        if (codewordLength(kind, p, n) > row.room()) {
            return false;
        }
        appendCodeword(kind, p, n);
        return true;
    }

    private void appendCodeword(int kind, int p, long n) {
        switch (kind) {
            case UNARY:
                row.appendOnesAndZero(n - 1);
                break;
            case GAMMA:
                appendGamma(n);
                break;
            case DELTA:
                appendGamma(bitLength(n));
                row.appendBits(n, bitLength(n) - 1);
                break;
            case OMEGA:
                appendOmega(n);
                break;
            case FIBONACCI:
                appendFibonacci(n);
                break;
            case GOLOMB:
                appendGolomb(p, n);
                break;
            case EXP_GOLOMB:
                appendGamma(((n - 1) >> p) + 1);
                row.appendBits(n - 1, p);
                break;
            default:
                appendGroups(p, n);
                break;
        }
    }

    private void appendGamma(long n) {
        row.appendBits(0, bitLength(n) - 1);
        row.appendBits(n, bitLength(n));
    }

    private void appendOmega(long n) {
        int length = omegaLength(n);
        // From the end to the front, as the groups come; the 0 at last stands there already.
        int at = row.end + length - 1;
        long rest = n;
        for (int group = 0; group < OMEGA_GROUPS && rest > 1; group++) {
            int width = bitLength(rest);
            at -= width;
            row.writeBits(at, rest, width);
            rest = width - 1;
        }
        row.end += length;
    }

    private void appendFibonacci(long n) {
        int length = fibonacciLength(n);
        long rest = n;
        // The greatest first: then no two of them are neighbours.
        for (int i = length - 2; i >= 0; i--) {
            if (fibonacci[i] <= rest) {
                row.writeBits(row.end + i, 1, 1);
                rest -= fibonacci[i];
            }
        }
        row.writeBits(row.end + length - 1, 1, 1);
        row.end += length;
    }

    private void appendGolomb(int p, long n) {
        row.appendOnesAndZero((n - 1) / p);
        long rest = (n - 1) % p;
        int width = golombWidth(p);
        long shortRests = golombShortRests(p, width);
        if (rest < shortRests) {
            row.appendBits(rest, width - 1);
        } else {
            row.appendBits(rest + shortRests, width);
        }
    }

    private void appendGroups(int p, long n) {
        int groups = groupsOf(p, n);
        long rest = n - 1;
        for (int group = 1; group <= groups; group++) {
            row.appendBits(group < groups ? 1 : 0, 1);
            row.appendBits(rest, p);
            rest >>= p;
        }
    }

    // ---- reading

    /** The number at the place, which goes on behind it; or NONE, and the place stays. */
    private long readNext(int kind, int p) {
        row.cursor = row.place;
        long n = readCodeword(kind, p);
        // Behind the row's end only 0s are read, so a codeword that it cuts off ends too late.
        if (n == NONE || row.cursor > row.end) {
            return NONE;
        }
        row.place = row.cursor;
        return n;
    }

    private long readCodeword(int kind, int p) {
        switch (kind) {
            case UNARY:
                return row.readOnesAndZero() + 1L;
            case GAMMA:
                return readGamma();
            case DELTA:
                return readDelta();
            case OMEGA:
                return readOmega();
            case FIBONACCI:
                return readFibonacci();
            case GOLOMB:
                return readGolomb(p);
            case EXP_GOLOMB:
                return readExpGolomb(p);
            default:
                return readGroups(p);
        }
    }

    private static long numberOrNone(long n) {
        return n <= GREATEST ? n : NONE;
    }

    private long readGamma() {
        for (int zeros = 0; zeros < MOST_BITS_OF_NUMBER; zeros++) {
            if (row.readBit() == 1) {
                return numberOrNone(row.readBits(1, zeros));
            }
        }
        return NONE;
    }

    private long readDelta() {
        long bits = readGamma();
        if (bits == NONE || bits > MOST_BITS_OF_NUMBER) {
            return NONE;
        }
        return numberOrNone(row.readBits(1, (int) bits - 1));
    }

    private long readOmega() {
        long n = 1;
        for (int group = 0; group < OMEGA_GROUPS; group++) {
            if (row.readBit() == 0) {
                return numberOrNone(n);
            }
            if (n >= MOST_BITS_OF_NUMBER) {
                return NONE;
            }
            n = row.readBits(1, (int) n);
        }
        return NONE;
    }

    private long readFibonacci() {
        long sum = 0;
        int before = 0;
        for (int i = 0; i < FIBONACCI_NUMBERS; i++) {
            int bit = row.readBit();
            if (bit == 1 && before == 1) {
                return numberOrNone(sum);
            }
            sum += bit * fibonacci[i];
            before = bit;
        }
        // Here only the 1 at last can follow: any other would stand for more than 2^62.
        return before == 1 && row.readBit() == 1 ? numberOrNone(sum) : NONE;
    }

    private long readGolomb(int p) {
        long quotient = row.readOnesAndZero();
        int width = golombWidth(p);
        long shortRests = golombShortRests(p, width);
        if (width == 0) {
            return quotient + 1;
        }
        long rest = row.readBits(0, width - 1);
        if (rest >= shortRests) {
            rest = 2 * rest + row.readBit() - shortRests;
        }
        return quotient * p + rest + 1;
    }

    private long readExpGolomb(int p) {
        long highAndOne = readGamma();
        if (highAndOne == NONE || (highAndOne - 1) >> (BITS_BELOW_GREATEST - p) != 0) {
            return NONE;
        }
        return ((highAndOne - 1) << p) + row.readBits(0, p) + 1;
    }

    private long readGroups(int p) {
        long value = 0;
        for (int groups = 0; groups < BITS_BELOW_GREATEST; groups++) {
            int shift = groups * p;
            int follows = row.readBit();
            long group = row.readBits(0, p);
            if (shift >= BITS_BELOW_GREATEST || group >> (BITS_BELOW_GREATEST - shift) != 0) {
                return NONE;
            }
            value |= group << shift;
            if (follows == 0) {
                // A number has no more groups than it takes, so the last of several is not 0.
                return group == 0 && groups > 0 ? NONE : value + 1;
            }
        }
        return NONE;
    }

    /** Up to 4096 bits, all those behind the end 0, and a place in them. */
    private static final class BitRow {
        private final long[] words = new long[ROW_ROOM / WORD_BITS];
        private int end = 0;
        private int place = 0;
        /** How far a codeword has been read that may still turn out to be none. */
        private int cursor = 0;

        int room() {
            return ROW_ROOM - end;
        }

        void makeEmpty() {
            Arrays.fill(words, 0L);
            end = 0;
            place = 0;
        }

        int bitAt(long i) {
            if (i < 0 || i >= end) {
                return 0;
            }
            return (int) (words[(int) (i / WORD_BITS)] >>> (WORD_BITS - 1 - i % WORD_BITS)) & 1;
        }

        private void setOne(int i) {
            if (i >= 0 && i < ROW_ROOM) {
                words[i / WORD_BITS] |= 1L << (WORD_BITS - 1 - i % WORD_BITS);
            }
        }

        /** The lowest bits of a value, to where only 0s stand. */
        void writeBits(int at, long value, int width) {
            for (int k = 0; k < width; k++) {
                if ((value >>> (width - 1 - k) & 1) == 1) {
                    setOne(at + k);
                }
            }
        }

        void appendBits(long value, int width) {
            writeBits(end, value, width);
            end += width;
        }

        void appendOnesAndZero(long ones) {
            for (int k = 0; k < ones && k < ROW_ROOM; k++) {
                setOne(end + k);
            }
            end += (int) ones + 1;
        }

        int readBit() {
            int bit = bitAt(cursor);
            cursor++;
            return bit;
        }

        /** What the bits of a front that is known, and so many more from the row, are together. */
        long readBits(long front, int width) {
            long value = front;
            for (int k = 0; k < width; k++) {
                value = 2 * value + bitAt(cursor + k);
            }
            cursor += width;
            return value;
        }

        int readOnesAndZero() {
            int ones = 0;
            // One bit more than there is room for, so that a 0 is read even behind a full row.
            while (ones <= ROW_ROOM && readBit() == 1) {
                ones++;
            }
            return ones;
        }
    }
}
