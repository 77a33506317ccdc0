import java.util.Arrays;

/** Each promise by itself: ordinary inputs, the edges that the document names, wrong inputs. */
public final class PromisesTest {
    private static final long TOP = Samples.TOP;
    private static final int[] ALL_KINDS = {0, 1, 2, 3, 4, 5, 6, 7};
    private static final Checks CHECKS = new Checks();

    public static void main(String[] args) {
        promise1NewObject();
        promise2Length();
        promise3Put();
        promise3PutOfTheDocumentsKinds();
        promise3PutWithoutRoom();
        promise4Take();
        promise4TakeWhereNoneStands();
        promise4TakeAboveTheGreatest();
        promise4TakeGroupsThatAreTooMany();
        promise5Push();
        promise6Bits();
        promise7Size();
        promise8Place();
        promise9Seek();
        promise10Wipe();
        promise11Add();
        promise12Get();
        promise13Clear();
        promise14Total();
        promise15Best();
        promise16PutAll();
        promise17TakeAll();
        promise18Count();
        promise19First();
        promise20Begun();
        promise21Fold();
        promise22Unfold();
        CHECKS.end();
    }

    // ---- helpers

    /** Another object for each call, where one would be asked more than its 512. */
    private static SelfEndingCodes fresh() {
        return new SelfEndingCodes();
    }

    private static long[] numbersToTry() {
        long[] numbers = new long[3000];
        int many = 0;
        for (long n = 1; n <= 1100; n++) {
            numbers[many++] = n;
        }
        for (int b = 11; b <= 62; b++) {
            for (long d = -3; d <= 3; d++) {
                long n = (1L << b) + d;
                if (n <= TOP) {
                    numbers[many++] = n;
                }
            }
            numbers[many++] = (1L << b) / 3 * 2;
        }
        long one = 987;
        long next = 1597;
        while (next < TOP) {
            numbers[many++] = next - 1;
            numbers[many++] = next;
            numbers[many++] = next + 1;
            long sum = one + next;
            one = next;
            next = sum;
        }
        return Arrays.copyOf(numbers, many);
    }

    // ---- promises

    private static void promise1NewObject() {
        SelfEndingCodes x = new SelfEndingCodes();
        CHECKS.due("new size()", x.size(), 0);
        CHECKS.due("new place()", x.place(), 0);
        CHECKS.due("new bits(0)", x.bits(0), 0);
        CHECKS.outOfBounds("new get(0)", () -> x.get(0));
        CHECKS.due("new clear()", x.clear(), 0);
        CHECKS.due("new wipe()", x.wipe(), 0);
        CHECKS.due("NONE", SelfEndingCodes.NONE, -1);
        SelfEndingCodes other = new SelfEndingCodes();
        x.put(1, 0, 5);
        x.add(3);
        CHECKS.due("another object's size()", other.size(), 0);
        CHECKS.due("another object's list", Samples.listText(other), "");
    }

    private static void promise2Length() {
        for (int[] code : Samples.CODES) {
            for (long n : numbersToTry()) {
                CHECKS.due(Samples.call("length", code[0], code[1], n), fresh().length(code[0], code[1], n),
                    Model.length(code[0], code[1], n));
            }
        }
        CHECKS.due("length(0, 0, 2^62)", fresh().length(0, 0, TOP), TOP);
        CHECKS.due("length(1, 0, 2^62)", fresh().length(1, 0, TOP), 125);
        CHECKS.due("length(2, 0, 2^62)", fresh().length(2, 0, TOP), 73);
        CHECKS.due("length(3, 0, 2^62)", fresh().length(3, 0, TOP), 75);
        CHECKS.due("length(4, 0, 2^62)", fresh().length(4, 0, TOP), 90);
        CHECKS.due("length(5, 1, 2^62)", fresh().length(5, 1, TOP), TOP);
        CHECKS.due("length(5, 2, 2^62)", fresh().length(5, 2, TOP), TOP / 2 + 1);
        CHECKS.due("length(6, 0, 2^62)", fresh().length(6, 0, TOP), 125);
        CHECKS.due("length(7, 1, 2^62)", fresh().length(7, 1, TOP), 124);
        for (int[] code : Samples.NO_CODES) {
            CHECKS.illegal(Samples.call("length", code[0], code[1], 1), () -> fresh().length(code[0], code[1], 1));
        }
        for (int[] code : Samples.CODES) {
            for (long n : Samples.NO_NUMBERS) {
                CHECKS.illegal(Samples.call("length", code[0], code[1], n), () -> fresh().length(code[0], code[1], n));
            }
        }
        SelfEndingCodes x = Samples.withRow("10");
        x.length(1, 0, 5);
        CHECKS.due("length() leaves the row", Samples.rowText(x), "10");
    }

    private static void promise3Put() {
        for (int[] code : Samples.CODES) {
            for (long n : numbersToTry()) {
                if (Model.length(code[0], code[1], n) > 1200) {
                    continue;
                }
                SelfEndingCodes x = Samples.withRow("101");
                String want = "101" + Model.codeword(code[0], code[1], n);
                CHECKS.due(Samples.call("put", code[0], code[1], n), x.put(code[0], code[1], n), want.length());
                CHECKS.due(Samples.call("put", code[0], code[1], n) + " writes", Samples.rowText(x), want);
                CHECKS.due(Samples.call("put", code[0], code[1], n) + " place()", x.place(), 0);
            }
        }
        SelfEndingCodes x = Samples.withRow("11");
        for (int[] code : Samples.NO_CODES) {
            CHECKS.illegal(Samples.call("put", code[0], code[1], 1), () -> x.put(code[0], code[1], 1));
        }
        for (int kind : ALL_KINDS) {
            for (long n : Samples.NO_NUMBERS) {
                int p = kind == 5 || kind == 7 ? 1 : 0;
                CHECKS.illegal(Samples.call("put", kind, p, n), () -> x.put(kind, p, n));
            }
        }
        CHECKS.due("row after puts that throw", Samples.rowText(x), "11");
    }

    private static void putsCodeword(int kind, int p, long n, String want) {
        SelfEndingCodes x = new SelfEndingCodes();
        x.put(kind, p, n);
        CHECKS.due(Samples.call("codeword", kind, p, n), Samples.rowText(x), want);
    }

    private static void promise3PutOfTheDocumentsKinds() {
        putsCodeword(0, 0, 1, "0");
        putsCodeword(0, 0, 4, "1110");
        putsCodeword(1, 0, 1, "1");
        putsCodeword(1, 0, 5, "00101");
        putsCodeword(2, 0, 1, "1");
        putsCodeword(2, 0, 10, "00100010");
        putsCodeword(3, 0, 1, "0");
        putsCodeword(3, 0, 2, "100");
        putsCodeword(3, 0, 16, "10100100000");
        putsCodeword(4, 0, 1, "11");
        putsCodeword(4, 0, 4, "1011");
        putsCodeword(4, 0, 11, "001011");
        putsCodeword(5, 1, 3, "110");
        putsCodeword(5, 4, 9, "11000");
        putsCodeword(5, 5, 3, "010");
        putsCodeword(5, 5, 4, "0110");
        putsCodeword(5, 5, 10, "10111");
        putsCodeword(6, 0, 5, "00101");
        putsCodeword(6, 2, 9, "01100");
        putsCodeword(7, 3, 1, "0000");
        putsCodeword(7, 3, 9, "10000001");
        putsCodeword(7, 1, 3, "1001");
    }

    private static void promise3PutWithoutRoom() {
        SelfEndingCodes x = new SelfEndingCodes();
        CHECKS.due("put(0, 0, 4097)", x.put(0, 0, 4097), -1);
        CHECKS.due("put(0, 0, 2^62)", x.put(0, 0, TOP), -1);
        CHECKS.due("put(5, 1, 2^62)", x.put(5, 1, TOP), -1);
        CHECKS.due("put(0, 0, 2^32 + 1)", x.put(0, 0, 4294967297L), -1);
        CHECKS.due("size() after puts without room", x.size(), 0);
        CHECKS.due("put(0, 0, 4096)", x.put(0, 0, 4096), 4096);
        CHECKS.due("take(0, 0) of a full row", x.take(0, 0), 4096);
        CHECKS.due("put(1, 0, 1) to a full row", x.put(1, 0, 1), -1);
        CHECKS.illegal("put(1, 0, 0) to a full row", () -> x.put(1, 0, 0));
        CHECKS.illegal("put(8, 0, 1) to a full row", () -> x.put(8, 0, 1));
        for (int[] code : Samples.CODES) {
            long n = code[0] == 0 || code[0] == 5 ? 50 : TOP;
            int needed = (int) Model.length(code[0], code[1], n);
            SelfEndingCodes fits = Samples.filled(4096 - needed);
            CHECKS.due(Samples.call("last put", code[0], code[1], n), fits.put(code[0], code[1], n), 4096);
            fits.seek(4096 - needed);
            CHECKS.due(Samples.call("last take", code[0], code[1]), fits.take(code[0], code[1]), n);
            CHECKS.due("place() at the end", fits.place(), 4096);
            SelfEndingCodes lacks = Samples.filled(4097 - needed);
            CHECKS.due(Samples.call("put too long", code[0], code[1], n), lacks.put(code[0], code[1], n), -1);
            CHECKS.due("size() then", lacks.size(), 4097 - needed);
        }
    }

    private static void promise4Take() {
        for (int[] code : Samples.CODES) {
            for (long n : numbersToTry()) {
                if (Model.length(code[0], code[1], n) > 1200) {
                    continue;
                }
                String word = Model.codeword(code[0], code[1], n);
                for (String behind : new String[] {"", "0", "1", "0110"}) {
                    SelfEndingCodes x = Samples.withRow("10" + word + behind);
                    x.seek(2);
                    CHECKS.due(Samples.call("take", code[0], code[1]) + " of " + n, x.take(code[0], code[1]), n);
                    CHECKS.due(Samples.call("take", code[0], code[1]) + " place()", x.place(), 2 + word.length());
                }
            }
        }
        SelfEndingCodes x = Samples.withRow("1100");
        x.seek(1);
        for (int[] code : Samples.NO_CODES) {
            CHECKS.illegal(Samples.call("take", code[0], code[1]), () -> x.take(code[0], code[1]));
        }
        CHECKS.due("place() after takes that throw", x.place(), 1);
    }

    private static void promise4TakeWhereNoneStands() {
        for (int[] code : Samples.CODES) {
            for (long n : new long[] {1, 2, 3, 4, 7, 12, 100, 1000}) {
                String word = Model.codeword(code[0], code[1], n);
                for (int cut = 0; cut < word.length(); cut += Math.max(1, word.length() / 60)) {
                    SelfEndingCodes x = Samples.withRow("01" + word.substring(0, cut));
                    x.seek(2);
                    CHECKS.due(Samples.call("take", code[0], code[1]) + " of " + n + " cut at " + cut,
                        x.take(code[0], code[1]), -1);
                    CHECKS.due("place() after NONE", x.place(), 2);
                }
            }
        }
        SelfEndingCodes ones = Samples.filled(4096);
        CHECKS.due("take(0, 0) of 4096 1s", ones.take(0, 0), -1);
        CHECKS.due("take(5, 1) of 4096 1s", ones.take(5, 1), -1);
        CHECKS.due("take(3, 0) of 4096 1s", ones.take(3, 0), -1);
        CHECKS.due("take(7, 16) of 4096 1s", ones.take(7, 16), -1);
        ones.seek(4096);
        for (int[] code : Samples.CODES) {
            CHECKS.due(Samples.call("take", code[0], code[1]) + " at the end", ones.take(code[0], code[1]), -1);
        }
        CHECKS.due("place() then", ones.place(), 4096);
    }

    private static void none(int kind, int p, String bits) {
        SelfEndingCodes x = Samples.withRow(bits);
        CHECKS.due(Samples.call("take", kind, p) + " of " + bits, x.take(kind, p), -1);
        CHECKS.due("place() then", x.place(), 0);
    }

    private static void stands(int kind, int p, String bits, long n) {
        SelfEndingCodes x = Samples.withRow(bits);
        CHECKS.due(Samples.call("take", kind, p) + " of " + bits, x.take(kind, p), n);
        CHECKS.due("place() then", x.place(), bits.length());
    }

    private static void promise4TakeAboveTheGreatest() {
        String zeros62 = "0".repeat(62);
        stands(1, 0, zeros62 + "1" + zeros62, TOP);
        none(1, 0, zeros62 + "1" + "0".repeat(61) + "1");
        none(1, 0, zeros62 + "1" + "1".repeat(62));
        none(1, 0, zeros62 + "01" + "0".repeat(63));
        none(1, 0, "0".repeat(100) + "1".repeat(200));
        stands(2, 0, "00000111111" + zeros62, TOP);
        none(2, 0, "00000111111" + "0".repeat(61) + "1");
        none(2, 0, "0000001000000" + "0".repeat(63));
        none(2, 0, zeros62 + "1" + "0".repeat(400));
        stands(3, 0, "10101" + "111110" + "1" + zeros62 + "0", TOP);
        none(3, 0, "10101" + "111110" + "1" + "0".repeat(61) + "10");
        none(3, 0, "10101" + "111111" + "1" + "0".repeat(63) + "0");
        stands(3, 0, "10101" + "111111" + "0", 63);
        none(3, 0, "1010010000" + "1" + "0".repeat(16) + "1" + "0".repeat(3000));
        none(3, 0, "10101" + "111110" + "1" + zeros62 + "1" + "0".repeat(3000));
        for (int[] code : Samples.CODES) {
            if (code[0] != 0 && code[0] != 5) {
                stands(code[0], code[1], Model.codeword(code[0], code[1], TOP), TOP);
                none(code[0], code[1], Model.codeword(code[0], code[1], TOP + 1));
            }
        }
        stands(4, 0, "01" + "0".repeat(86) + "11", 2880067194370816122L);
        none(4, 0, "0".repeat(89) + "11");
        none(4, 0, "0".repeat(90) + "11");
        none(4, 0, "0".repeat(300) + "11");
        none(4, 0, "10".repeat(44) + "11");
        stands(4, 0, "0".repeat(88) + "11", 2880067194370816120L);
        stands(6, 40, "0".repeat(22) + "1" + "0".repeat(22) + "1".repeat(40), TOP);
        none(6, 40, "0".repeat(22) + "1" + "0".repeat(21) + "1" + "0".repeat(40));
        none(6, 40, zeros62 + "1" + zeros62 + "0".repeat(40));
        none(6, 1, zeros62 + "1" + zeros62 + "0");
        none(6, 0, zeros62 + "1" + "0".repeat(61) + "1");
        stands(7, 16, "1" + "1".repeat(16) + "1" + "1".repeat(16) + "1" + "1".repeat(16) + "000" + "1".repeat(14), TOP);
        none(7, 16, "1" + "0".repeat(16) + "1" + "0".repeat(16) + "1" + "0".repeat(16) + "0" + "01" + "0".repeat(14));
        none(7, 16, ("1" + "0".repeat(16)).repeat(4) + "0" + "0".repeat(15) + "1");
        none(7, 1, "10".repeat(62) + "01");
        stands(7, 1, "10".repeat(61) + "01", TOP / 2 + 1);
        stands(7, 1, "11".repeat(61) + "01", TOP);
        none(7, 2, "100".repeat(31) + "001");
        none(7, 3, "1000".repeat(20) + "0100");
        stands(7, 3, "1000".repeat(20) + "0011", 3L * (1L << 60) + 1);
    }

    /** A number's groups are as many as it takes: with an empty one behind them it is none's. */
    private static void promise4TakeGroupsThatAreTooMany() {
        stands(7, 1, "00", 1);
        none(7, 1, "1000");
        none(7, 1, "1100");
        none(7, 3, "10010000");
        none(7, 16, "1" + "0".repeat(15) + "1" + "0" + "0".repeat(16));
        none(7, 1, "10".repeat(61) + "00");
        stands(7, 3, "1000" + "1000" + "0001", 65);
    }

    private static void promise5Push() {
        SelfEndingCodes x = new SelfEndingCodes();
        long v = 0xC3A5F00F12345679L;
        CHECKS.due("push(v, 5)", x.push(v, 5), 5);
        CHECKS.due("push(v, 5) writes", Samples.rowText(x), "11000");
        CHECKS.due("push(1, 3)", x.push(1, 3), 8);
        CHECKS.due("push(1, 3) writes", Samples.rowText(x), "11000000");
        CHECKS.due("push(v, 64)", x.push(v, 64), 72);
        CHECKS.due("push(v, 64) writes", x.bits(8), v);
        CHECKS.due("push(v, 1)", x.push(v, 1), 73);
        CHECKS.due("push(v, 63)", x.push(v, 63), 136);
        CHECKS.due("push(v, 63) writes", x.bits(73), v & ~1L);
        CHECKS.due("place() after push", x.place(), 0);
        for (int n : new int[] {0, -1, 65, Integer.MIN_VALUE, Integer.MAX_VALUE}) {
            CHECKS.illegal(Samples.call("push", 5, n), () -> x.push(5, n));
        }
        CHECKS.due("size() after pushes that throw", x.size(), 136);
        SelfEndingCodes clean = Samples.withRow("0");
        clean.push(-1L, 64);
        clean.push(0, 64);
        CHECKS.due("push(-1, 64) writes 64 bits alone", clean.bits(65), 0);
        SelfEndingCodes full = Samples.filled(4090);
        CHECKS.due("push(0, 7) without room", full.push(0, 7), -1);
        CHECKS.due("push(0, 64) without room", full.push(0, 64), -1);
        CHECKS.due("size() after pushes without room", full.size(), 4090);
        CHECKS.due("push(v, 6)", full.push(v, 6), 4096);
        CHECKS.due("push(v, 6) writes", full.bits(4090), v & 0xFC00000000000000L);
        CHECKS.due("push(v, 1) to a full row", full.push(v, 1), -1);
        CHECKS.illegal("push(v, 0) to a full row", () -> full.push(v, 0));
        CHECKS.illegal("push(v, 65) to a full row", () -> full.push(v, 65));
    }

    private static void promise6Bits() {
        SelfEndingCodes x = new SelfEndingCodes();
        long v = 0x8123456789ABCDEFL;
        x.push(v, 64);
        x.push(-1L, 64);
        x.push(v, 3);
        CHECKS.due("bits(0)", x.bits(0), v);
        CHECKS.due("bits(64)", x.bits(64), -1L);
        CHECKS.due("bits(4)", x.bits(4), v << 4 | 15);
        CHECKS.due("bits(63)", x.bits(63), -1L);
        CHECKS.due("bits(128)", x.bits(128), 4L << 61);
        CHECKS.due("bits(130)", x.bits(130), 0);
        CHECKS.due("bits(131)", x.bits(131), 0);
        CHECKS.due("bits(-1)", x.bits(-1), v >>> 1);
        CHECKS.due("bits(-63)", x.bits(-63), 1);
        CHECKS.due("bits(-64)", x.bits(-64), 0);
        for (int i : new int[] {4095, 4096, 5000, Integer.MAX_VALUE, Integer.MAX_VALUE - 20, Integer.MIN_VALUE, -100}) {
            CHECKS.due(Samples.call("bits", i), x.bits(i), 0);
        }
        SelfEndingCodes full = Samples.filled(4096);
        CHECKS.due("bits(4032) of a full row", full.bits(4032), -1L);
        CHECKS.due("bits(4033) of a full row", full.bits(4033), -2L);
        CHECKS.due("bits(4095) of a full row", full.bits(4095), Long.MIN_VALUE);
        CHECKS.due("bits(4096) of a full row", full.bits(4096), 0);
        CHECKS.due("bits(MAX) of a full row", full.bits(Integer.MAX_VALUE), 0);
        CHECKS.due("bits(-64) of a full row", full.bits(-64), 0);
        full.wipe();
        full.push(0, 1);
        CHECKS.due("bits(0) of a row that was wiped", full.bits(0), 0);
    }

    private static void promise7Size() {
        SelfEndingCodes x = new SelfEndingCodes();
        x.put(4, 0, 1);
        CHECKS.due("size()", x.size(), 2);
        x.push(0, 64);
        CHECKS.due("size()", x.size(), 66);
        x.take(4, 0);
        x.seek(1);
        CHECKS.due("size() after reading", x.size(), 66);
        CHECKS.due("size() of a full row", Samples.filled(4096).size(), 4096);
    }

    private static void promise8Place() {
        SelfEndingCodes x = Samples.withRow("0010111");
        x.take(1, 0);
        CHECKS.due("place()", x.place(), 5);
        x.put(0, 0, 1);
        CHECKS.due("place() after put", x.place(), 5);
        x.seek(2);
        CHECKS.due("place() after seek", x.place(), 2);
        x.wipe();
        CHECKS.due("place() after wipe", x.place(), 0);
    }

    private static void promise9Seek() {
        SelfEndingCodes x = Samples.withRow("00101");
        for (int to = 5; to >= 0; to--) {
            x.seek(to);
            CHECKS.due(Samples.call("seek", to), x.place(), to);
        }
        x.seek(3);
        for (int to : new int[] {-1, 6, 4096, Integer.MIN_VALUE, Integer.MAX_VALUE}) {
            CHECKS.outOfBounds(Samples.call("seek", to), () -> {
                x.seek(to);
                return 0;
            });
        }
        CHECKS.due("place() after seeks that throw", x.place(), 3);
        CHECKS.due("take(1, 0) after seek", x.take(1, 0), -1);
        x.seek(2);
        CHECKS.due("take(1, 0) after seek", x.take(1, 0), 1);
        SelfEndingCodes empty = new SelfEndingCodes();
        empty.seek(0);
        CHECKS.outOfBounds("seek(1) of an empty row", () -> {
            empty.seek(1);
            return 0;
        });
    }

    private static void promise10Wipe() {
        SelfEndingCodes x = Samples.filled(4096);
        x.add(7);
        x.seek(100);
        CHECKS.due("wipe()", x.wipe(), 4096);
        CHECKS.due("size() then", x.size(), 0);
        CHECKS.due("place() then", x.place(), 0);
        CHECKS.due("bits(0) then", x.bits(0), 0);
        CHECKS.due("list then", Samples.listText(x), "7");
        CHECKS.due("wipe() again", x.wipe(), 0);
        for (int[] code : Samples.CODES) {
            SelfEndingCodes old = Samples.filled(2000);
            old.wipe();
            old.put(code[0], code[1], 77);
            CHECKS.due(Samples.call("put", code[0], code[1], 77) + " after wipe", Samples.rowText(old),
                Model.codeword(code[0], code[1], 77));
        }
    }

    private static void promise11Add() {
        SelfEndingCodes x = new SelfEndingCodes();
        for (long n : Samples.NO_NUMBERS) {
            CHECKS.illegal(Samples.call("add", n), () -> x.add(n));
        }
        CHECKS.due("add(1)", x.add(1), 1);
        CHECKS.due("add(2^62)", x.add(TOP), 2);
        CHECKS.due("add(1) again", x.add(1), 3);
        CHECKS.due("list", Samples.listText(x), "1 " + TOP + " 1");
        for (int i = 4; i <= 100; i++) {
            CHECKS.due("add() number " + i, x.add(i), i);
        }
        CHECKS.due("add() number 101", x.add(5), -1);
        for (long n : Samples.NO_NUMBERS) {
            CHECKS.illegal(Samples.call("add", n) + " to a full list", () -> x.add(n));
        }
        CHECKS.due("the last after that", x.get(99), 100);
        CHECKS.due("clear() after that", x.clear(), 100);
    }

    private static void promise12Get() {
        SelfEndingCodes x = Samples.withList(9, 8, TOP);
        CHECKS.due("get(0)", x.get(0), 9);
        CHECKS.due("get(1)", x.get(1), 8);
        CHECKS.due("get(2)", x.get(2), TOP);
        for (int i : new int[] {-1, 3, 99, 100, Integer.MIN_VALUE, Integer.MAX_VALUE}) {
            CHECKS.outOfBounds(Samples.call("get", i), () -> x.get(i));
        }
        x.clear();
        CHECKS.outOfBounds("get(0) after clear", () -> x.get(0));
    }

    private static void promise13Clear() {
        SelfEndingCodes x = Samples.withList(4, 5);
        x.put(1, 0, 9);
        x.seek(3);
        CHECKS.due("clear()", x.clear(), 2);
        CHECKS.due("clear() again", x.clear(), 0);
        CHECKS.due("row after clear()", Samples.rowText(x), "0001001");
        CHECKS.due("place after clear()", x.place(), 3);
        CHECKS.due("add() after clear()", x.add(6), 1);
        CHECKS.due("get(0) after clear()", x.get(0), 6);
    }

    private static void promise14Total() {
        SelfEndingCodes x = Samples.withList(1, 5, 9, 200);
        CHECKS.due("total(5, 10)", x.total(5, 10), 37);
        CHECKS.due("total(0, 0)", x.total(0, 0), 215);
        CHECKS.due("total(1, 0)", x.total(1, 0), 28);
        CHECKS.due("total of nothing", new SelfEndingCodes().total(2, 0), 0);
        CHECKS.due("total(0, 0) of 2^62", Samples.withList(TOP).total(0, 0), TOP);
        CHECKS.due("total(0, 0) of 2^62 - 1 and 1", Samples.withList(TOP - 1, 1).total(0, 0), TOP);
        CHECKS.due("total(0, 0) of 2^62 - 2 and 1", Samples.withList(TOP - 2, 1).total(0, 0), TOP - 1);
        CHECKS.due("total(0, 0) of 2^62 - 1 and 2", Samples.withList(TOP - 1, 2).total(0, 0), TOP);
        CHECKS.due("total(0, 0) of 2^62 twice", Samples.withList(TOP, TOP).total(0, 0), TOP);
        CHECKS.due("total(0, 0) of 2^62 four times", Samples.withList(TOP, TOP, TOP, TOP).total(0, 0), TOP);
        CHECKS.due("total(0, 0) of 2^62 five times and 1", Samples.withList(TOP, TOP, TOP, TOP, TOP, 1).total(0, 0), TOP);
        CHECKS.due("total(5, 2) of 2^62 twice", Samples.withList(TOP, TOP).total(5, 2), TOP);
        CHECKS.due("total(5, 3) of 2^62 twice", Samples.withList(TOP, TOP).total(5, 3), 2 * ((TOP - 1) / 3 + 2));
        CHECKS.due("total(1, 0) of 2^62 twice", Samples.withList(TOP, TOP).total(1, 0), 250);
        SelfEndingCodes most = new SelfEndingCodes();
        for (int i = 0; i < 100; i++) {
            most.add(TOP);
        }
        CHECKS.due("total(0, 0) of 2^62 a hundred times", most.total(0, 0), TOP);
        CHECKS.due("total(7, 1) of 2^62 a hundred times", most.total(7, 1), 12400);
        for (int[] code : Samples.NO_CODES) {
            CHECKS.illegal(Samples.call("total", code[0], code[1]), () -> x.total(code[0], code[1]));
        }
        CHECKS.due("list after total()", Samples.listText(x), "1 5 9 200");
    }

    private static void promise15Best() {
        long[][] lists = {
            {}, {1}, {2}, {100}, {1, 5, 9, 200}, {1000, 1001, 999}, {TOP}, {TOP, TOP}, {TOP, 1},
            {3, 3, 3, 3, 70000}, {500, 501, 502}, {1, 1, 1, 2}, {65536, 65537}, {1L << 40, 1L << 41},
        };
        for (long[] numbers : lists) {
            SelfEndingCodes x = Samples.withList(numbers);
            Model model = new Model();
            for (long n : numbers) {
                model.add(n);
            }
            for (int[] tried : new int[][] {{5, 1}, {5, 2}, {5, 37}, {5, 499}, {5, 500},
                {6, 0}, {6, 1}, {6, 7}, {6, 40}, {7, 1}, {7, 2}, {7, 9}, {7, 16}}) {
                CHECKS.due(Samples.call("best", tried[0], tried[1]) + " of " + Samples.listText(x),
                    x.best(tried[0], tried[1]), model.best(tried[0], tried[1]));
            }
        }
        SelfEndingCodes x = Samples.withList(1, 5, 9, 200);
        CHECKS.due("best(5, 500)", x.best(5, 500), 46);
        CHECKS.due("best(6, 40)", x.best(6, 40), 1);
        CHECKS.due("best(7, 16)", x.best(7, 16), 4);
        CHECKS.due("best(5, 500) of nothing", new SelfEndingCodes().best(5, 500), 1);
        CHECKS.due("best(6, 40) of nothing", new SelfEndingCodes().best(6, 40), 0);
        CHECKS.due("best(5, 2) where both are 2^62", Samples.withList(TOP, TOP, TOP).best(5, 2), 1);
        for (int[] wrong : new int[][] {{5, 0}, {5, -1}, {5, 501}, {5, 1000000}, {5, 1000001}, {6, -1}, {6, 41},
            {7, 0}, {7, 17}, {4, 0}, {0, 0}, {4, 1}, {8, 1}, {-1, 1}, {Integer.MAX_VALUE, 1}, {7, Integer.MAX_VALUE}}) {
            CHECKS.illegal(Samples.call("best", wrong[0], wrong[1]), () -> x.best(wrong[0], wrong[1]));
        }
    }

    private static void promise16PutAll() {
        SelfEndingCodes x = Samples.withList(1, 5, 9);
        x.push(-1L, 2);
        CHECKS.due("putAll(1, 0)", x.putAll(1, 0), 3);
        CHECKS.due("putAll(1, 0) writes", Samples.rowText(x), "11" + "1" + "00101" + "0001001");
        CHECKS.due("place() after putAll", x.place(), 0);
        CHECKS.due("list after putAll", Samples.listText(x), "1 5 9");
        CHECKS.due("putAll of nothing", new SelfEndingCodes().putAll(7, 16), 0);
        SelfEndingCodes long2nd = Samples.withList(10, 5000, 3);
        CHECKS.due("putAll(0, 0) ends where there is no room", long2nd.putAll(0, 0), 1);
        CHECKS.due("row then", Samples.rowText(long2nd), "1111111110");
        CHECKS.due("list then", Samples.listText(long2nd), "10 5000 3");
        SelfEndingCodes long1st = Samples.withList(TOP, 3);
        CHECKS.due("putAll(5, 7) without room for the first", long1st.putAll(5, 7), 0);
        CHECKS.due("size() then", long1st.size(), 0);
        SelfEndingCodes exact = Samples.withList(4000, 96, 1);
        CHECKS.due("putAll(0, 0) to the last bit", exact.putAll(0, 0), 2);
        CHECKS.due("size() then", exact.size(), 4096);
        CHECKS.due("putAll(0, 0) to a full row", exact.putAll(0, 0), 0);
        for (int[] code : Samples.NO_CODES) {
            CHECKS.illegal(Samples.call("putAll", code[0], code[1]), () -> x.putAll(code[0], code[1]));
        }
        CHECKS.due("size() after putAlls that throw", x.size(), 15);
    }

    private static void promise17TakeAll() {
        SelfEndingCodes x = Samples.withRow("11" + "1" + "00101" + "0001001" + "001");
        x.add(77);
        x.seek(2);
        CHECKS.due("takeAll(1, 0)", x.takeAll(1, 0), 3);
        CHECKS.due("list then", Samples.listText(x), "1 5 9");
        CHECKS.due("place() then", x.place(), 15);
        CHECKS.due("takeAll(1, 0) where none stands", x.takeAll(1, 0), 0);
        CHECKS.due("list then", Samples.listText(x), "");
        CHECKS.due("place() then", x.place(), 15);
        CHECKS.due("size() then", x.size(), 18);
        SelfEndingCodes many = Samples.withRow("0".repeat(120));
        CHECKS.due("takeAll(0, 0) of 120", many.takeAll(0, 0), 100);
        CHECKS.due("place() then", many.place(), 100);
        CHECKS.due("takeAll(0, 0) of the others", many.takeAll(0, 0), 20);
        CHECKS.due("clear() then", many.clear(), 20);
        for (int[] code : Samples.CODES) {
            SelfEndingCodes all = Samples.withList(1, 2, 3, 40, 500);
            int put = all.putAll(code[0], code[1]);
            all.clear();
            CHECKS.due(Samples.call("takeAll", code[0], code[1]), all.takeAll(code[0], code[1]), put);
            CHECKS.due("list then", Samples.listText(all), "1 2 3 40 500");
            CHECKS.due("place() then", all.place(), all.size());
        }
        SelfEndingCodes kept = Samples.withRow("1111");
        kept.add(6);
        for (int[] code : Samples.NO_CODES) {
            CHECKS.illegal(Samples.call("takeAll", code[0], code[1]), () -> kept.takeAll(code[0], code[1]));
        }
        CHECKS.due("list after takeAlls that throw", Samples.listText(kept), "6");
        CHECKS.due("place() after takeAlls that throw", kept.place(), 0);
    }

    private static void promise18Count() {
        for (int[] code : Samples.CODES) {
            int kind = code[0];
            int p = code[1];
            Model model = new Model();
            long sum = 0;
            for (int length = 0; length <= 200; length++) {
                CHECKS.due(Samples.call("count", kind, p, length), fresh().count(kind, p, length), model.count(kind, p, length));
                sum += fresh().count(kind, p, length);
            }
            if (kind != 0 && kind != 5) {
                CHECKS.due(Samples.call("all counts", kind, p), sum, TOP);
            }
            for (int length : new int[] {-1, 201, Integer.MIN_VALUE, Integer.MAX_VALUE}) {
                CHECKS.illegal(Samples.call("count", kind, p, length), () -> fresh().count(kind, p, length));
            }
        }
        countsByTrying();
        CHECKS.due("count(1, 0, 125)", fresh().count(1, 0, 125), 1);
        CHECKS.due("count(1, 0, 123)", fresh().count(1, 0, 123), 1L << 61);
        CHECKS.due("count(4, 0, 90)", fresh().count(4, 0, 90), TOP - 2880067194370816120L + 1);
        CHECKS.due("count(4, 0, 91)", fresh().count(4, 0, 91), 0);
        for (int[] code : Samples.NO_CODES) {
            CHECKS.illegal(Samples.call("count", code[0], code[1], 3), () -> fresh().count(code[0], code[1], 3));
        }
    }

    private static void countsByTrying() {
        for (int[] code : Samples.CODES) {
            int[] many = new int[200];
            for (long n = 1; n <= 3000; n++) {
                int length = (int) Math.min(199, Model.length(code[0], code[1], n));
                many[length]++;
            }
            long after = Model.length(code[0], code[1], 3001);
            for (int length = 0; length < Math.min(199, after); length++) {
                CHECKS.due(Samples.call("count by trying", code[0], code[1], length),
                    fresh().count(code[0], code[1], length), many[length]);
            }
        }
    }

    private static void promise19First() {
        for (int[] code : Samples.CODES) {
            int kind = code[0];
            int p = code[1];
            Model model = new Model();
            for (int length = 0; length <= 200; length++) {
                long first = fresh().first(kind, p, length);
                CHECKS.due(Samples.call("first", kind, p, length), first, model.first(kind, p, length));
                if (first != -1) {
                    CHECKS.due(Samples.call("length of the first", kind, p, length), fresh().length(kind, p, first), length);
                }
                if (first > 1) {
                    boolean shorter = fresh().length(kind, p, first - 1) < length;
                    CHECKS.due(Samples.call("before the first is shorter", kind, p, length), shorter, true);
                }
            }
            for (int length : new int[] {-1, 201, Integer.MIN_VALUE, Integer.MAX_VALUE}) {
                CHECKS.illegal(Samples.call("first", kind, p, length), () -> fresh().first(kind, p, length));
            }
        }
        CHECKS.due("first(0, 0, 0)", fresh().first(0, 0, 0), -1);
        CHECKS.due("first(0, 0, 200)", fresh().first(0, 0, 200), 200);
        CHECKS.due("first(1, 0, 4)", fresh().first(1, 0, 4), -1);
        CHECKS.due("first(1, 0, 125)", fresh().first(1, 0, 125), TOP);
        CHECKS.due("first(1, 0, 127)", fresh().first(1, 0, 127), -1);
        CHECKS.due("first(5, 1000000, 200)", fresh().first(5, 1000000, 200), 179048577L);
        for (int[] code : Samples.NO_CODES) {
            CHECKS.illegal(Samples.call("first", code[0], code[1], 3), () -> fresh().first(code[0], code[1], 3));
        }
    }

    private static void promise20Begun() {
        for (int[] code : Samples.CODES) {
            int kind = code[0];
            int p = code[1];
            Model model = new Model();
            for (int length = 0; length <= 62; length++) {
                CHECKS.due(Samples.call("begun", kind, p, length), fresh().begun(kind, p, length), model.begun(kind, p, length));
            }
            for (int length = 0; length <= 11; length++) {
                CHECKS.due(Samples.call("begun by trying", kind, p, length), fresh().begun(kind, p, length),
                    begunByTrying(kind, p, length));
            }
            for (int length : new int[] {-1, 63, 200, Integer.MIN_VALUE, Integer.MAX_VALUE}) {
                CHECKS.illegal(Samples.call("begun", kind, p, length), () -> fresh().begun(kind, p, length));
            }
        }
        CHECKS.due("begun(0, 0, 62)", fresh().begun(0, 0, 62), TOP - 1);
        CHECKS.due("begun(1, 0, 3)", fresh().begun(1, 0, 3), 6);
        CHECKS.due("begun(7, 1, 4)", fresh().begun(7, 1, 4), 10);
        for (int[] code : Samples.NO_CODES) {
            CHECKS.illegal(Samples.call("begun", code[0], code[1], 3), () -> fresh().begun(code[0], code[1], 3));
        }
    }

    private static long begunByTrying(int kind, int p, int length) {
        long many = 0;
        for (int value = 0; value < 1 << length; value++) {
            String text = Integer.toBinaryString(value | 1 << length).substring(1);
            many += Model.numberAt(kind, p, text) != -1 ? 1 : 0;
        }
        return many;
    }

    private static void promise21Fold() {
        SelfEndingCodes x = new SelfEndingCodes();
        CHECKS.due("fold(0)", x.fold(0), 1);
        CHECKS.due("fold(1)", x.fold(1), 2);
        CHECKS.due("fold(-1)", x.fold(-1), 3);
        CHECKS.due("fold(2)", x.fold(2), 4);
        CHECKS.due("fold(-2)", x.fold(-2), 5);
        long half = TOP / 2;
        CHECKS.due("fold(2^61)", x.fold(half), TOP);
        CHECKS.due("fold(1 - 2^61)", x.fold(1 - half), TOP - 1);
        for (long v : new long[] {half + 1, -half, -half - 1, TOP, -TOP, TOP + 1, -TOP - 1,
            Long.MAX_VALUE, Long.MIN_VALUE, Long.MIN_VALUE + 1}) {
            CHECKS.illegal(Samples.call("fold", v), () -> x.fold(v));
        }
    }

    private static void promise22Unfold() {
        CHECKS.due("unfold(1)", fresh().unfold(1), 0);
        CHECKS.due("unfold(2)", fresh().unfold(2), 1);
        CHECKS.due("unfold(3)", fresh().unfold(3), -1);
        CHECKS.due("unfold(2^62)", fresh().unfold(TOP), TOP / 2);
        CHECKS.due("unfold(2^62 - 1)", fresh().unfold(TOP - 1), 1 - TOP / 2);
        for (long n : numbersToTry()) {
            CHECKS.due(Samples.call("fold of unfold", n), fresh().fold(fresh().unfold(n)), n);
        }
        for (long n : Samples.NO_NUMBERS) {
            CHECKS.illegal(Samples.call("unfold", n), () -> fresh().unfold(n));
        }
    }
}
