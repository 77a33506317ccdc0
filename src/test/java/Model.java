import java.math.BigInteger;
import java.util.ArrayList;
import java.util.HashMap;
import java.util.List;
import java.util.Map;

/**
 * What the document says, told once more with texts of 0s and 1s and with numbers without bounds,
 * so that it shares neither the ways nor the limits of the program.
 */
final class Model {
    static final long GREATEST = 4611686018427387904L;
    private static final BigInteger TOP = BigInteger.valueOf(GREATEST);
    private static final BigInteger ONE = BigInteger.ONE;
    private static final BigInteger TWO = BigInteger.TWO;

    final StringBuilder row = new StringBuilder();
    final List<Long> list = new ArrayList<>();
    int place = 0;

    // ---- codewords

    static boolean isCode(int kind, int p) {
        switch (kind) {
            case 0: case 1: case 2: case 3: case 4: return p == 0;
            case 5: return 1 <= p && p <= 1000000;
            case 6: return 0 <= p && p <= 40;
            case 7: return 1 <= p && p <= 16;
            default: return false;
        }
    }

    static boolean isNumber(long n) {
        return 1 <= n && n <= GREATEST;
    }

    /** A codeword; only for those that are not too long for a text. */
    static String codeword(int kind, int p, long n) {
        String digits = Long.toBinaryString(n);
        switch (kind) {
            case 0: return "1".repeat((int) (n - 1)) + "0";
            case 1: return "0".repeat(digits.length() - 1) + digits;
            case 2: return codeword(1, 0, digits.length()) + digits.substring(1);
            case 3: return omega(n);
            case 4: return zeckendorf(n);
            case 5: return "1".repeat((int) ((n - 1) / p)) + "0" + golombRest(p, (int) ((n - 1) % p));
            case 6: return exponential(p, n);
            default: return groups(p, n);
        }
    }

    private static String omega(long n) {
        String text = "0";
        while (n != 1) {
            String digits = Long.toBinaryString(n);
            text = digits + text;
            n = digits.length() - 1;
        }
        return text;
    }

    private static List<BigInteger> fibonacciUpTo(BigInteger most) {
        List<BigInteger> numbers = new ArrayList<>();
        BigInteger one = ONE;
        BigInteger next = TWO;
        while (one.compareTo(most) <= 0) {
            numbers.add(one);
            BigInteger sum = one.add(next);
            one = next;
            next = sum;
        }
        return numbers;
    }

    private static String zeckendorf(long n) {
        BigInteger rest = BigInteger.valueOf(n);
        String text = "1";
        List<BigInteger> numbers = fibonacciUpTo(rest);
        for (int i = numbers.size() - 1; i >= 0; i--) {
            boolean needed = numbers.get(i).compareTo(rest) <= 0;
            text = (needed ? "1" : "0") + text;
            rest = needed ? rest.subtract(numbers.get(i)) : rest;
        }
        return text;
    }

    private static int golombBits(int p) {
        int c = 0;
        while ((1L << c) < p) {
            c++;
        }
        return c;
    }

    private static String golombRest(int p, int r) {
        int c = golombBits(p);
        int few = (1 << c) - p;
        return r < few ? inBits(r, c - 1) : inBits(r + few, c);
    }

    private static String inBits(long value, int width) {
        String text = "";
        for (int k = 0; k < width; k++) {
            text = value % 2 + text;
            value /= 2;
        }
        return text;
    }

    private static String exponential(int p, long n) {
        long power = 1L << p;
        return codeword(1, 0, (n - 1) / power + 1) + inBits((n - 1) % power, p);
    }

    private static String groups(int p, long n) {
        long power = 1L << p;
        long rest = n - 1;
        String text = "";
        do {
            long group = rest % power;
            rest /= power;
            text += (rest > 0 ? "1" : "0") + inBits(group, p);
        } while (rest > 0);
        return text;
    }

    static long length(int kind, int p, long n) {
        if (kind == 0) {
            return n;
        }
        if (kind == 5) {
            return (n - 1) / p + 1 + golombRest(p, (int) ((n - 1) % p)).length();
        }
        return codeword(kind, p, n).length();
    }

    // ---- reading

    /** Reads as if numbers had no bound; then only a number's own codeword counts. */
    static long numberAt(int kind, int p, String text) {
        BigInteger n;
        try {
            n = new Reader(text).number(kind, p);
        } catch (StringIndexOutOfBoundsException e) {
            return -1;
        }
        if (n.signum() <= 0 || n.compareTo(TOP) > 0) {
            return -1;
        }
        return text.startsWith(codeword(kind, p, n.longValueExact())) ? n.longValueExact() : -1;
    }

    private static final class Reader {
        private final String text;
        private int at = 0;

        Reader(String text) {
            this.text = text;
        }

        private BigInteger digits(int width) {
            BigInteger value = BigInteger.ZERO;
            for (int k = 0; k < width; k++) {
                value = value.shiftLeft(1).add(BigInteger.valueOf(text.charAt(at++) - '0'));
            }
            return value;
        }

        private int run(char bit) {
            int many = 0;
            while (text.charAt(at) == bit) {
                at++;
                many++;
            }
            return many;
        }

        BigInteger number(int kind, int p) {
            switch (kind) {
                case 0: return BigInteger.valueOf(run('1') + 1L + digits(1).longValue());
                case 1: return digits(run('0') + 1);
                case 2: return behindOne(number(1, 0));
                case 3: return omega();
                case 4: return zeckendorf();
                case 5: return golomb(p);
                case 6: return number(1, 0).subtract(ONE).shiftLeft(p).add(digits(p)).add(ONE);
                default: return groups(p);
            }
        }

        private BigInteger behindOne(BigInteger bits) {
            if (bits.bitLength() > 20) {
                throw new StringIndexOutOfBoundsException();
            }
            int width = bits.intValueExact() - 1;
            return ONE.shiftLeft(width).add(digits(width));
        }

        private BigInteger omega() {
            BigInteger n = ONE;
            while (digits(1).equals(ONE)) {
                n = behindOne(n.add(ONE));
            }
            return n;
        }

        private BigInteger zeckendorf() {
            BigInteger sum = BigInteger.ZERO;
            BigInteger one = ONE;
            BigInteger next = TWO;
            boolean before = false;
            while (true) {
                boolean bit = text.charAt(at++) == '1';
                if (bit && before) {
                    return sum;
                }
                sum = bit ? sum.add(one) : sum;
                before = bit;
                BigInteger both = one.add(next);
                one = next;
                next = both;
            }
        }

        private BigInteger golomb(int p) {
            long quotient = run('1');
            at++;
            int c = golombBits(p);
            int few = (1 << c) - p;
            if (few > 0) {
                long rest = Long.parseLong("0" + text.substring(at, at + c - 1), 2);
                if (rest < few) {
                    return BigInteger.valueOf(quotient * p + rest + 1);
                }
            }
            long rest = Long.parseLong("0" + text.substring(at, at + c), 2) - few;
            return BigInteger.valueOf(quotient * p + rest + 1);
        }

        private BigInteger groups(int p) {
            BigInteger value = BigInteger.ZERO;
            int shift = 0;
            boolean follows;
            do {
                follows = text.charAt(at++) == '1';
                value = value.add(digits(p).shiftLeft(shift));
                shift += p;
            } while (follows);
            return value.add(ONE);
        }
    }

    // ---- the calls, as the document tells them

    static void need(boolean held) {
        if (!held) {
            throw new IllegalArgumentException();
        }
    }

    static void needIndex(boolean held) {
        if (!held) {
            throw new IndexOutOfBoundsException();
        }
    }

    long lengthCall(int kind, int p, long n) {
        need(isCode(kind, p) && isNumber(n));
        return length(kind, p, n);
    }

    long put(int kind, int p, long n) {
        need(isCode(kind, p) && isNumber(n));
        if (length(kind, p, n) + row.length() > 4096) {
            return -1;
        }
        row.append(codeword(kind, p, n));
        return row.length();
    }

    long take(int kind, int p) {
        need(isCode(kind, p));
        long n = numberAt(kind, p, row.substring(place));
        if (n != -1) {
            place += codeword(kind, p, n).length();
        }
        return n;
    }

    long push(long v, int n) {
        need(1 <= n && n <= 64);
        if (row.length() + n > 4096) {
            return -1;
        }
        String all = "0".repeat(Long.numberOfLeadingZeros(v)) + (v == 0 ? "" : Long.toBinaryString(v));
        row.append(all, 0, n);
        return row.length();
    }

    long bits(int i) {
        long answer = 0;
        for (long at = i; at < i + 64L; at++) {
            boolean one = at >= 0 && at < row.length() && row.charAt((int) at) == '1';
            answer = 2 * answer + (one ? 1 : 0);
        }
        return answer;
    }

    long seek(int to) {
        needIndex(0 <= to && to <= row.length());
        place = to;
        return 0;
    }

    long wipe() {
        int had = row.length();
        row.setLength(0);
        place = 0;
        return had;
    }

    long add(long n) {
        need(isNumber(n));
        if (list.size() == 100) {
            return -1;
        }
        list.add(n);
        return list.size();
    }

    long get(int i) {
        needIndex(0 <= i && i < list.size());
        return list.get(i);
    }

    long clear() {
        int had = list.size();
        list.clear();
        return had;
    }

    long total(int kind, int p) {
        need(isCode(kind, p));
        BigInteger sum = BigInteger.ZERO;
        for (long n : list) {
            sum = sum.add(BigInteger.valueOf(length(kind, p, n)));
        }
        return sum.min(TOP).longValueExact();
    }

    long best(int kind, int most) {
        need(5 <= kind && kind <= 7 && isCode(kind, most) && most <= 500);
        int best = -1;
        for (int p = most; p >= 0; p--) {
            if (isCode(kind, p) && (best == -1 || total(kind, p) <= total(kind, best))) {
                best = p;
            }
        }
        return best;
    }

    long putAll(int kind, int p) {
        need(isCode(kind, p));
        int many = 0;
        while (many < list.size() && put(kind, p, list.get(many)) != -1) {
            many++;
        }
        return many;
    }

    long takeAll(int kind, int p) {
        need(isCode(kind, p));
        list.clear();
        while (list.size() < 100) {
            long n = take(kind, p);
            if (n == -1) {
                break;
            }
            list.add(n);
        }
        return list.size();
    }

    private static final Map<String, BigInteger[]> SHORTER = new HashMap<>();

    /** How many whole numbers without bound have codewords shorter than a length. */
    private static BigInteger shorter(int kind, int p, int length) {
        return SHORTER.computeIfAbsent(kind + " " + p, key -> sums(kind, p))[length];
    }

    private static BigInteger[] sums(int kind, int p) {
        BigInteger[] sums = new BigInteger[202];
        sums[0] = BigInteger.ZERO;
        for (int l = 1; l < sums.length; l++) {
            sums[l] = sums[l - 1].add(ofLength(kind, p, l - 1));
        }
        return sums;
    }

    /** How many whole numbers without bound have codewords of a length. */
    private static BigInteger ofLength(int kind, int p, int length) {
        switch (kind) {
            case 0:
                return length >= 1 ? ONE : BigInteger.ZERO;
            case 4:
                return length >= 2 ? fibonacci(length - 1) : BigInteger.ZERO;
            case 5: {
                int c = golombBits(p);
                long few = (1L << c) - p;
                long many = (length >= c ? few : 0) + (length >= c + 1 ? p - few : 0);
                return BigInteger.valueOf(many);
            }
            case 6:
                return length >= p ? ofLength(1, 0, length - p).shiftLeft(p) : BigInteger.ZERO;
            case 7:
                if (length == 0 || length % (p + 1) != 0) {
                    return BigInteger.ZERO;
                }
                int k = length / (p + 1);
                BigInteger before = k == 1 ? BigInteger.ZERO : ONE.shiftLeft((k - 1) * p);
                return ONE.shiftLeft(k * p).subtract(before);
            default:
                return ofBits(kind, length);
        }
    }

    private static BigInteger fibonacci(int i) {
        BigInteger one = ONE;
        BigInteger next = ONE;
        for (int k = 1; k < i; k++) {
            BigInteger sum = one.add(next);
            one = next;
            next = sum;
        }
        return one;
    }

    private static BigInteger ofBits(int kind, int length) {
        for (int b = 1; b <= 300; b++) {
            int has = kind == 1 ? 2 * b - 1
                : kind == 2 ? codeword(1, 0, b).length() + b - 1
                : b == 1 ? 1 : b + codeword(3, 0, b - 1).length();
            if (has == length) {
                return ONE.shiftLeft(b - 1);
            }
        }
        return BigInteger.ZERO;
    }

    long count(int kind, int p, int length) {
        need(isCode(kind, p) && 0 <= length && length <= 200);
        BigInteger to = shorter(kind, p, length + 1).min(TOP);
        return to.subtract(shorter(kind, p, length).min(TOP)).longValueExact();
    }

    long first(int kind, int p, int length) {
        if (count(kind, p, length) == 0) {
            return -1;
        }
        return shorter(kind, p, length).add(ONE).longValueExact();
    }

    long begun(int kind, int p, int length) {
        need(isCode(kind, p) && 0 <= length && length <= 62);
        BigInteger rows = BigInteger.ZERO;
        for (int l = 0; l <= length; l++) {
            rows = rows.add(BigInteger.valueOf(count(kind, p, l)).shiftLeft(length - l));
        }
        return rows.longValueExact();
    }

    long fold(long v) {
        BigInteger twice = BigInteger.valueOf(v).shiftLeft(1);
        BigInteger folded = v > 0 ? twice : ONE.subtract(twice);
        need(folded.compareTo(TOP) <= 0);
        return folded.longValueExact();
    }

    long unfold(long n) {
        need(isNumber(n));
        return n % 2 == 0 ? n / 2 : -(n / 2);
    }
}
