/** The bounds that the document's sections 'What it is' and 'Terms' name, a test for each sentence. */
public final class BoundsOfTermsTest {
    private static final long TOP = Samples.TOP;
    private static final Checks CHECKS = new Checks();

    /** A call that takes a kind and its parameter. */
    private interface OfCode {
        long answer(SelfEndingCodes x, int kind, int p);
    }

    /** A call that takes a number. */
    private interface OfNumber {
        long answer(SelfEndingCodes x, long n);
    }

    private static final String[] CODE_CALLS = {
        "length", "put", "take", "total", "putAll", "takeAll", "count", "first", "begun",
    };
    private static final OfCode[] OF_CODE = {
        (x, kind, p) -> x.length(kind, p, 1),
        (x, kind, p) -> x.put(kind, p, 1),
        (x, kind, p) -> x.take(kind, p),
        (x, kind, p) -> x.total(kind, p),
        (x, kind, p) -> x.putAll(kind, p),
        (x, kind, p) -> x.takeAll(kind, p),
        (x, kind, p) -> x.count(kind, p, 20),
        (x, kind, p) -> x.first(kind, p, 20),
        (x, kind, p) -> x.begun(kind, p, 20),
    };

    private static final String[] NUMBER_CALLS = {"length", "put", "add", "unfold"};
    private static final OfNumber[] OF_NUMBER = {
        (x, n) -> x.length(1, 0, n),
        (x, n) -> x.put(1, 0, n),
        (x, n) -> x.add(n),
        (x, n) -> x.unfold(n),
    };

    public static void main(String[] args) {
        callsUpToThe512th();
        numbersFromOneOn();
        numbersUpToTheGreatest();
        numbersOutsideTheirBounds();
        kindsFrom0To7();
        parametersOfKinds0To4();
        parametersOfKind5();
        parametersOfKind6();
        parametersOfKind7();
        codewordsOfKind0();
        codewordsOfKind1();
        codewordsOfKind2();
        codewordsOfKind3();
        codewordsOfKind4();
        codewordsOfKind5();
        codewordsOfKind5WhereTheRestGrows();
        codewordsOfKind6();
        codewordsOfKind7();
        rowOfUpTo4096Bits();
        listOfUpTo100Numbers();
        severalFaultsAtOnce();
        throwsAheadOfNone();
        callsThatThrowChangeNothing();
        callsThatAnswerNoneChangeNothing();
        callsThatOnlyTellChangeNothing();
        CHECKS.end();
    }

    // ---- What it is

    /** "An object is used for at most 512 calls after it has been made". */
    private static void callsUpToThe512th() {
        CHECKS.due("511th call", Checks.outcome(() -> after(510).take(0, 0)), "16");
        CHECKS.due("512th call, take(0, 0)", Checks.outcome(() -> after(511).take(0, 0)), "16");
        CHECKS.due("512th call, place()", Checks.outcome(() -> after(511).place()), "4080");
        CHECKS.due("512th call, size()", Checks.outcome(() -> after(511).size()), "4096");
        CHECKS.due("512th call, put(1, 0, 1)", Checks.outcome(() -> after(511).put(1, 0, 1)), "-1");
        CHECKS.due("512th call, add(7)", Checks.outcome(() -> after(511).add(7)), "1");
        CHECKS.due("512th call, get(0)", Checks.outcome(() -> after(511).get(0)), Checks.OUT_OF_BOUNDS);
        CHECKS.due("512th call, take(8, 0)", Checks.outcome(() -> after(511).take(8, 0)), Checks.ILLEGAL);
    }

    /** After 256 numbers have been put, which fill the row, and some of them taken. */
    private static SelfEndingCodes after(int calls) {
        SelfEndingCodes x = new SelfEndingCodes();
        for (int i = 1; i <= calls; i++) {
            if (i <= 256) {
                CHECKS.due("call " + i + ", put(0, 0, 16)", x.put(0, 0, 16), 16 * i);
            } else {
                CHECKS.due("call " + i + ", take(0, 0)", x.take(0, 0), 16);
            }
        }
        return x;
    }

    // ---- Terms: numbers

    /** "NUMBERS are 1 .. 4611686018427387904 (2^62)": the least and the one above it. */
    private static void numbersFromOneOn() {
        eachAnswers(1, "1", "1", "1", "0");
        eachAnswers(2, "3", "3", "1", "1");
    }

    /** "NUMBERS are 1 .. 4611686018427387904 (2^62)": the greatest and the one below it. */
    private static void numbersUpToTheGreatest() {
        eachAnswers(TOP - 1, "123", "123", "1", "-2305843009213693951");
        eachAnswers(TOP, "125", "125", "1", "2305843009213693952");
    }

    private static void eachAnswers(long n, String... wants) {
        for (int i = 0; i < wants.length; i++) {
            OfNumber asked = OF_NUMBER[i];
            SelfEndingCodes x = new SelfEndingCodes();
            CHECKS.due(Samples.call(NUMBER_CALLS[i], n), Checks.outcome(() -> asked.answer(x, n)), wants[i]);
        }
    }

    /** "NUMBERS are 1 .. 4611686018427387904 (2^62)": 0, 2^62 + 1 and what lies further out. */
    private static void numbersOutsideTheirBounds() {
        for (long n : Samples.NO_NUMBERS) {
            for (int i = 0; i < OF_NUMBER.length; i++) {
                OfNumber asked = OF_NUMBER[i];
                CHECKS.illegalAndKeeps(Samples.call(NUMBER_CALLS[i], n), Samples::busy, x -> asked.answer(x, n));
            }
            for (int[] code : Samples.CODES) {
                CHECKS.illegalAndKeeps(Samples.call("put", code[0], code[1], n), Samples::busy,
                    x -> x.put(code[0], code[1], n));
                CHECKS.illegalAndKeeps(Samples.call("length", code[0], code[1], n), Samples::busy,
                    x -> x.length(code[0], code[1], n));
            }
        }
    }

    // ---- Terms: kinds and parameters

    private static void noCode(int kind, int p) {
        for (int i = 0; i < OF_CODE.length; i++) {
            OfCode asked = OF_CODE[i];
            String what = Samples.call(CODE_CALLS[i], kind, p);
            CHECKS.illegalAndKeeps(what, Samples::busy, x -> asked.answer(x, kind, p));
            CHECKS.illegalAndKeeps(what + " of a full one", Samples::full, x -> asked.answer(x, kind, p));
        }
    }

    /** Every call knows the code, and the codeword of 1 has so many bits. */
    private static void code(int kind, int p, int bitsOfOne) {
        for (int i = 0; i < OF_CODE.length; i++) {
            OfCode asked = OF_CODE[i];
            String got = Checks.outcome(() -> asked.answer(Samples.busy(), kind, p));
            CHECKS.due(Samples.call(CODE_CALLS[i], kind, p) + " throws", got.startsWith("throws"), false);
        }
        SelfEndingCodes x = new SelfEndingCodes();
        CHECKS.due(Samples.call("length", kind, p, 1), x.length(kind, p, 1), bitsOfOne);
        CHECKS.due(Samples.call("put", kind, p, 1), x.put(kind, p, 1), bitsOfOne);
        CHECKS.due(Samples.call("take", kind, p), x.take(kind, p), 1);
    }

    /** "a kind that is not 0 to 7". */
    private static void kindsFrom0To7() {
        for (int p : new int[] {0, 1}) {
            noCode(-1, p);
            noCode(8, p);
            noCode(Integer.MIN_VALUE, p);
            noCode(Integer.MAX_VALUE, p);
        }
        code(0, 0, 1);
        code(1, 0, 1);
        code(6, 1, 2);
        code(7, 1, 2);
    }

    /** "0 (p 0)" to "4 (p 0)". */
    private static void parametersOfKinds0To4() {
        for (int kind = 0; kind <= 4; kind++) {
            noCode(kind, -1);
            code(kind, 0, kind == 4 ? 2 : 1);
            noCode(kind, 1);
        }
    }

    /** "5 (p 1 to 1000000)". */
    private static void parametersOfKind5() {
        noCode(5, Integer.MIN_VALUE);
        noCode(5, -1);
        noCode(5, 0);
        code(5, 1, 1);
        code(5, 2, 2);
        code(5, 999999, 20);
        code(5, 1000000, 20);
        noCode(5, 1000001);
        noCode(5, Integer.MAX_VALUE);
    }

    /** "6 (p 0 to 40)". */
    private static void parametersOfKind6() {
        noCode(6, Integer.MIN_VALUE);
        noCode(6, -1);
        code(6, 0, 1);
        code(6, 1, 2);
        code(6, 39, 40);
        code(6, 40, 41);
        noCode(6, 41);
        noCode(6, 64);
        noCode(6, Integer.MAX_VALUE);
    }

    /** "7 (p 1 to 16)". */
    private static void parametersOfKind7() {
        noCode(7, Integer.MIN_VALUE);
        noCode(7, -1);
        noCode(7, 0);
        code(7, 1, 2);
        code(7, 2, 3);
        code(7, 15, 16);
        code(7, 16, 17);
        noCode(7, 17);
        noCode(7, Integer.MAX_VALUE);
    }

    // ---- Terms: the codewords of each kind where they change their form

    private static void codeword(int kind, int p, long n, String want) {
        SelfEndingCodes x = new SelfEndingCodes();
        String what = Samples.call("codeword", kind, p, n);
        CHECKS.due(what + " length()", x.length(kind, p, n), want.length());
        CHECKS.due(what + " put()", x.put(kind, p, n), want.length());
        CHECKS.due(what + " bits", Samples.rowText(x), want);
        CHECKS.due(what + " take()", x.take(kind, p), n);
        CHECKS.due(what + " place()", x.place(), want.length());
    }

    /** "n - 1 times 1, then 0." */
    private static void codewordsOfKind0() {
        codeword(0, 0, 1, "0");
        codeword(0, 0, 2, "10");
        codeword(0, 0, 3, "110");
        codeword(0, 0, 64, "1".repeat(63) + "0");
        codeword(0, 0, 65, "1".repeat(64) + "0");
        codeword(0, 0, 4095, "1".repeat(4094) + "0");
        codeword(0, 0, 4096, "1".repeat(4095) + "0");
    }

    /** "if n has b bits: b - 1 times 0, then these bits." */
    private static void codewordsOfKind1() {
        codeword(1, 0, 1, "1");
        codeword(1, 0, 2, "010");
        codeword(1, 0, 3, "011");
        codeword(1, 0, 4, "00100");
        codeword(1, 0, 7, "00111");
        codeword(1, 0, 8, "0001000");
        codeword(1, 0, (1L << 31) - 1, "0".repeat(30) + "1".repeat(31));
        codeword(1, 0, 1L << 31, "0".repeat(31) + "1" + "0".repeat(31));
        codeword(1, 0, 1L << 32, "0".repeat(32) + "1" + "0".repeat(32));
        codeword(1, 0, TOP - 1, "0".repeat(61) + "1".repeat(62));
        codeword(1, 0, TOP, "0".repeat(62) + "1" + "0".repeat(62));
    }

    /** "the codeword of b by kind 1, then n's bits but the highest." */
    private static void codewordsOfKind2() {
        codeword(2, 0, 1, "1");
        codeword(2, 0, 2, "0100");
        codeword(2, 0, 3, "0101");
        codeword(2, 0, 4, "01100");
        codeword(2, 0, 7, "01111");
        codeword(2, 0, 8, "00100000");
        codeword(2, 0, TOP - 1, "00000111110" + "1".repeat(61));
        codeword(2, 0, TOP, "00000111111" + "0".repeat(62));
    }

    /** "a 0 at last; in front of it, while n is not 1: n's bits, and n becomes how many these are, less 1." */
    private static void codewordsOfKind3() {
        codeword(3, 0, 1, "0");
        codeword(3, 0, 2, "100");
        codeword(3, 0, 3, "110");
        codeword(3, 0, 4, "101000");
        codeword(3, 0, 7, "101110");
        codeword(3, 0, 8, "1110000");
        codeword(3, 0, 15, "1111110");
        codeword(3, 0, 16, "10100100000");
        codeword(3, 0, 255, "10" + "111" + "11111111" + "0");
        codeword(3, 0, 256, "11" + "1000" + "100000000" + "0");
        codeword(3, 0, 65535, "11" + "1111" + "1".repeat(16) + "0");
        codeword(3, 0, 65536, "10" + "100" + "10000" + "1" + "0".repeat(16) + "0");
        codeword(3, 0, TOP - 1, "10" + "101" + "111101" + "1".repeat(62) + "0");
        codeword(3, 0, TOP, "10" + "101" + "111110" + "1" + "0".repeat(62) + "0");
    }

    /** "none twice, no two beside one another; .. up to the greatest that is needed .. then a 1." */
    private static void codewordsOfKind4() {
        codeword(4, 0, 1, "11");
        codeword(4, 0, 2, "011");
        codeword(4, 0, 3, "0011");
        codeword(4, 0, 4, "1011");
        codeword(4, 0, 5, "00011");
        codeword(4, 0, 7, "01011");
        codeword(4, 0, 8, "000011");
        codeword(4, 0, 12, "101011");
        codeword(4, 0, 13, "0000011");
        codeword(4, 0, 2880067194370816119L, "01".repeat(44) + "1");
        codeword(4, 0, 2880067194370816120L, "0".repeat(88) + "11");
        codeword(4, 0, 2880067194370816121L, "1" + "0".repeat(87) + "11");
        codeword(4, 0, TOP - 1, Model.codeword(4, 0, TOP - 1));
        codeword(4, 0, TOP, Model.codeword(4, 0, TOP));
    }

    /** "c the least number for which 2^c is not less than p": p at a power of 2, below and above it. */
    private static void codewordsOfKind5() {
        codeword(5, 1, 1, "0");
        codeword(5, 1, 2, "10");
        codeword(5, 2, 1, "00");
        codeword(5, 2, 2, "01");
        codeword(5, 2, 3, "100");
        codeword(5, 3, 1, "00");
        codeword(5, 3, 2, "010");
        codeword(5, 3, 3, "011");
        codeword(5, 3, 4, "100");
        codeword(5, 4, 1, "000");
        codeword(5, 4, 4, "011");
        codeword(5, 4, 5, "1000");
        codeword(5, 8, 8, "0111");
        codeword(5, 8, 9, "10000");
        codeword(5, 524288, 1, "0" + "0".repeat(19));
        codeword(5, 524288, 524288, "0" + "1".repeat(19));
        codeword(5, 524289, 1, "0" + "0".repeat(19));
        codeword(5, 524289, 524289, "0" + "1".repeat(20));
    }

    /** "if r is less than 2^c - p, r in c - 1 bits, else r and 2^c - p, together, in c bits." */
    private static void codewordsOfKind5WhereTheRestGrows() {
        codeword(5, 5, 3, "010");
        codeword(5, 5, 4, "0110");
        codeword(5, 5, 5, "0111");
        codeword(5, 5, 6, "1000");
        codeword(5, 7, 1, "000");
        codeword(5, 7, 2, "0010");
        codeword(5, 7, 7, "0111");
        codeword(5, 9, 7, "0110");
        codeword(5, 9, 8, "01110");
        codeword(5, 9, 9, "01111");
        codeword(5, 1000000, 1, "0" + "0".repeat(19));
        codeword(5, 1000000, 48576, "0" + "0001011110110111111");
        codeword(5, 1000000, 48577, "0" + "00010111101110000000");
        codeword(5, 1000000, 1000000, "0" + "1".repeat(20));
        codeword(5, 1000000, 1000001, "10" + "0".repeat(19));
        codeword(5, 1000000, 4076000000L, "1".repeat(4075) + "0" + "1".repeat(20));
    }

    /** "n - 1 without its p lowest bits, and 1, by kind 1; then those p bits." */
    private static void codewordsOfKind6() {
        codeword(6, 0, 1, "1");
        codeword(6, 0, 2, "010");
        codeword(6, 0, TOP, "0".repeat(62) + "1" + "0".repeat(62));
        codeword(6, 1, 1, "10");
        codeword(6, 1, 2, "11");
        codeword(6, 1, 3, "0100");
        codeword(6, 1, 4, "0101");
        codeword(6, 1, 5, "0110");
        codeword(6, 1, 7, "001000");
        codeword(6, 39, TOP, "0".repeat(23) + "1" + "0".repeat(23) + "1".repeat(39));
        codeword(6, 40, 1, "1" + "0".repeat(40));
        codeword(6, 40, 1L << 40, "1" + "1".repeat(40));
        codeword(6, 40, (1L << 40) + 1, "010" + "0".repeat(40));
        codeword(6, 40, TOP - 1, "0".repeat(22) + "1" + "0".repeat(22) + "1".repeat(39) + "0");
        codeword(6, 40, TOP, "0".repeat(22) + "1" + "0".repeat(22) + "1".repeat(40));
    }

    /** "as many as it takes, one at least; in front of each a 1 if another one follows, else a 0." */
    private static void codewordsOfKind7() {
        codeword(7, 1, 1, "00");
        codeword(7, 1, 2, "01");
        codeword(7, 1, 3, "1001");
        codeword(7, 1, 4, "1101");
        codeword(7, 1, 5, "101001");
        codeword(7, 1, TOP - 1, "10" + "11".repeat(60) + "01");
        codeword(7, 1, TOP, "11".repeat(61) + "01");
        codeword(7, 2, TOP, "111".repeat(30) + "011");
        codeword(7, 3, 1, "0000");
        codeword(7, 3, 8, "0111");
        codeword(7, 3, 9, "10000001");
        codeword(7, 3, 64, "11110111");
        codeword(7, 3, 65, "100010000001");
        codeword(7, 15, TOP, ("1" + "1".repeat(15)).repeat(4) + "0" + "0".repeat(13) + "11");
        codeword(7, 16, 1, "0" + "0".repeat(16));
        codeword(7, 16, 65536, "0" + "1".repeat(16));
        codeword(7, 16, 65537, "1" + "0".repeat(16) + "0" + "0".repeat(15) + "1");
        codeword(7, 16, TOP, ("1" + "1".repeat(16)).repeat(3) + "0" + "00" + "1".repeat(14));
    }

    // ---- Terms: row and list

    /** "THE ROW has up to 4096 bits": by each of the calls that make it longer. */
    private static void rowOfUpTo4096Bits() {
        CHECKS.due("push(0, 1) behind 4094", Samples.filled(4094).push(0, 1), 4095);
        CHECKS.due("push(0, 1) behind 4095", Samples.filled(4095).push(0, 1), 4096);
        CHECKS.noneAndKeeps("push(0, 1) behind 4096", () -> Samples.filled(4096), x -> x.push(0, 1));
        CHECKS.due("put(1, 0, 1) behind 4094", Samples.filled(4094).put(1, 0, 1), 4095);
        CHECKS.due("put(1, 0, 1) behind 4095", Samples.filled(4095).put(1, 0, 1), 4096);
        CHECKS.noneAndKeeps("put(1, 0, 1) behind 4096", () -> Samples.filled(4096), x -> x.put(1, 0, 1));
        CHECKS.due("putAll(1, 0) behind 4094", sizeAfterPutAll(4094), 4095);
        CHECKS.due("putAll(1, 0) behind 4095", sizeAfterPutAll(4095), 4096);
        CHECKS.due("putAll(1, 0) behind 4096", sizeAfterPutAll(4096), 4096);
    }

    private static int sizeAfterPutAll(int bits) {
        SelfEndingCodes x = Samples.filled(bits);
        x.add(1);
        x.putAll(1, 0);
        return x.size();
    }

    /** "THE LIST has up to 100 numbers": by each of the calls that make it longer. */
    private static void listOfUpTo100Numbers() {
        CHECKS.due("add(5) to 98", Samples.withNumbers(98, 3).add(5), 99);
        CHECKS.due("add(5) to 99", Samples.withNumbers(99, 3).add(5), 100);
        CHECKS.noneAndKeeps("add(5) to 100", () -> Samples.withNumbers(100, 3), x -> x.add(5));
        CHECKS.due("takeAll(1, 0) of 99", Samples.filled(99).takeAll(1, 0), 99);
        CHECKS.due("takeAll(1, 0) of 100", Samples.filled(100).takeAll(1, 0), 100);
        CHECKS.due("takeAll(1, 0) of 101", Samples.filled(101).takeAll(1, 0), 100);
    }

    // ---- Terms: what is thrown, and what stays

    /** "Methods throw what their comments name, the one named first when several would do". */
    private static void severalFaultsAtOnce() {
        CHECKS.illegalAndKeeps("length(8, 1, 0)", Samples::busy, x -> x.length(8, 1, 0));
        CHECKS.illegalAndKeeps("length(5, 0, 0)", Samples::busy, x -> x.length(5, 0, 0));
        CHECKS.illegalAndKeeps("put(-1, -1, -1)", Samples::busy, x -> x.put(-1, -1, -1));
        CHECKS.illegalAndKeeps("put(7, 17, TOP + 1)", Samples::busy, x -> x.put(7, 17, TOP + 1));
        CHECKS.illegalAndKeeps("take(8, 41)", Samples::busy, x -> x.take(8, 41));
        CHECKS.illegalAndKeeps("total(-1, 1000001)", Samples::busy, x -> x.total(-1, 1000001));
        CHECKS.illegalAndKeeps("best(4, 501)", Samples::busy, x -> x.best(4, 501));
        CHECKS.illegalAndKeeps("best(8, 0)", Samples::busy, x -> x.best(8, 0));
        CHECKS.illegalAndKeeps("putAll(8, -1)", Samples::busy, x -> x.putAll(8, -1));
        CHECKS.illegalAndKeeps("takeAll(8, -1)", Samples::busy, x -> x.takeAll(8, -1));
        CHECKS.illegalAndKeeps("count(8, 0, 201)", Samples::busy, x -> x.count(8, 0, 201));
        CHECKS.illegalAndKeeps("count(5, 0, -1)", Samples::busy, x -> x.count(5, 0, -1));
        CHECKS.illegalAndKeeps("first(6, 41, -1)", Samples::busy, x -> x.first(6, 41, -1));
        CHECKS.illegalAndKeeps("begun(7, 0, 63)", Samples::busy, x -> x.begun(7, 0, 63));
    }

    /** "and ahead of answering NONE". */
    private static void throwsAheadOfNone() {
        CHECKS.noneAndKeeps("put(1, 0, 1) of a full one", Samples::full, x -> x.put(1, 0, 1));
        CHECKS.illegalAndKeeps("put(8, 0, 1) of a full one", Samples::full, x -> x.put(8, 0, 1));
        CHECKS.illegalAndKeeps("put(1, 1, 1) of a full one", Samples::full, x -> x.put(1, 1, 1));
        CHECKS.illegalAndKeeps("put(1, 0, 0) of a full one", Samples::full, x -> x.put(1, 0, 0));
        CHECKS.illegalAndKeeps("put(0, 0, TOP + 1) of a full one", Samples::full, x -> x.put(0, 0, TOP + 1));
        CHECKS.noneAndKeeps("take(1, 0) of a full one", Samples::full, x -> x.take(1, 0));
        CHECKS.illegalAndKeeps("take(8, 0) of a full one", Samples::full, x -> x.take(8, 0));
        CHECKS.illegalAndKeeps("take(5, 0) of a full one", Samples::full, x -> x.take(5, 0));
        CHECKS.noneAndKeeps("push(0, 64) of a full one", Samples::full, x -> x.push(0, 64));
        CHECKS.illegalAndKeeps("push(0, 65) of a full one", Samples::full, x -> x.push(0, 65));
        CHECKS.illegalAndKeeps("push(0, 0) of a full one", Samples::full, x -> x.push(0, 0));
        CHECKS.noneAndKeeps("add(1) of a full one", Samples::full, x -> x.add(1));
        CHECKS.illegalAndKeeps("add(0) of a full one", Samples::full, x -> x.add(0));
        CHECKS.illegalAndKeeps("add(TOP + 1) of a full one", Samples::full, x -> x.add(TOP + 1));
        CHECKS.noneAndKeeps("first(1, 0, 0)", Samples::full, x -> x.first(1, 0, 0));
        CHECKS.illegalAndKeeps("first(8, 0, 0)", Samples::full, x -> x.first(8, 0, 0));
        CHECKS.illegalAndKeeps("first(1, 1, 0)", Samples::full, x -> x.first(1, 1, 0));
        CHECKS.illegalAndKeeps("first(1, 0, -1)", Samples::full, x -> x.first(1, 0, -1));
        CHECKS.illegalAndKeeps("first(1, 0, 201)", Samples::full, x -> x.first(1, 0, 201));
    }

    /** "a call that throws .. changes nothing": each call that can throw, in several states. */
    private static void callsThatThrowChangeNothing() {
        Samples.Maker[] states = {SelfEndingCodes::new, Samples::busy, Samples::full};
        for (Samples.Maker state : states) {
            CHECKS.illegalAndKeeps("length(1, 0, 0)", state, x -> x.length(1, 0, 0));
            CHECKS.illegalAndKeeps("put(1, 0, 0)", state, x -> x.put(1, 0, 0));
            CHECKS.illegalAndKeeps("take(1, 1)", state, x -> x.take(1, 1));
            CHECKS.illegalAndKeeps("push(-1, 65)", state, x -> x.push(-1, 65));
            CHECKS.outOfBoundsAndKeeps("seek(-1)", state, x -> sought(x, -1));
            CHECKS.outOfBoundsAndKeeps("seek(4097)", state, x -> sought(x, 4097));
            CHECKS.illegalAndKeeps("add(0)", state, x -> x.add(0));
            CHECKS.outOfBoundsAndKeeps("get(-1)", state, x -> x.get(-1));
            CHECKS.outOfBoundsAndKeeps("get(100)", state, x -> x.get(100));
            CHECKS.illegalAndKeeps("total(0, 1)", state, x -> x.total(0, 1));
            CHECKS.illegalAndKeeps("best(5, 501)", state, x -> x.best(5, 501));
            CHECKS.illegalAndKeeps("putAll(7, 0)", state, x -> x.putAll(7, 0));
            CHECKS.illegalAndKeeps("takeAll(7, 0)", state, x -> x.takeAll(7, 0));
            CHECKS.illegalAndKeeps("count(0, 0, 201)", state, x -> x.count(0, 0, 201));
            CHECKS.illegalAndKeeps("first(0, 0, 201)", state, x -> x.first(0, 0, 201));
            CHECKS.illegalAndKeeps("begun(0, 0, 63)", state, x -> x.begun(0, 0, 63));
            CHECKS.illegalAndKeeps("fold(TOP)", state, x -> x.fold(TOP));
            CHECKS.illegalAndKeeps("unfold(0)", state, x -> x.unfold(0));
        }
    }

    private static long sought(SelfEndingCodes x, int place) {
        x.seek(place);
        return 0;
    }

    /** "a call that .. answers NONE, changes nothing": each call that can, in several states. */
    private static void callsThatAnswerNoneChangeNothing() {
        CHECKS.noneAndKeeps("put(0, 0, 4097) of a new one", SelfEndingCodes::new, x -> x.put(0, 0, 4097));
        CHECKS.noneAndKeeps("put(0, 0, TOP) of a busy one", Samples::busy, x -> x.put(0, 0, TOP));
        CHECKS.noneAndKeeps("take(1, 0) of a new one", SelfEndingCodes::new, x -> x.take(1, 0));
        CHECKS.noneAndKeeps("take(2, 0) where the row ends too early", () -> stopped(Samples.busy(), 9), x -> x.take(2, 0));
        CHECKS.noneAndKeeps("push(-1, 64) of a full one", Samples::full, x -> x.push(-1, 64));
        CHECKS.noneAndKeeps("add(1) of a full one", Samples::full, x -> x.add(1));
        CHECKS.noneAndKeeps("first(1, 0, 2) of a new one", SelfEndingCodes::new, x -> x.first(1, 0, 2));
        CHECKS.noneAndKeeps("first(1, 0, 200) of a busy one", Samples::busy, x -> x.first(1, 0, 200));
    }

    private static SelfEndingCodes stopped(SelfEndingCodes x, int place) {
        x.seek(place);
        return x;
    }

    /** What a call tells leaves what it does not name: those that promise no change make none. */
    private static void callsThatOnlyTellChangeNothing() {
        CHECKS.keeps("length(1, 0, 5)", Samples::busy, x -> x.length(1, 0, 5), 5);
        CHECKS.keeps("bits(5)", Samples::busy, x -> x.bits(5), 0xD3L << 56);
        CHECKS.keeps("size()", Samples::busy, x -> x.size(), 13);
        CHECKS.keeps("place()", Samples::busy, x -> x.place(), 5);
        CHECKS.keeps("get(2)", Samples::busy, x -> x.get(2), TOP);
        CHECKS.keeps("total(1, 0)", Samples::busy, x -> x.total(1, 0), 131);
        CHECKS.keeps("best(7, 16)", Samples::busy, x -> x.best(7, 16), 7);
        CHECKS.keeps("count(1, 0, 3)", Samples::busy, x -> x.count(1, 0, 3), 2);
        CHECKS.keeps("first(1, 0, 3)", Samples::busy, x -> x.first(1, 0, 3), 2);
        CHECKS.keeps("begun(1, 0, 3)", Samples::busy, x -> x.begun(1, 0, 3), 6);
        CHECKS.keeps("fold(-3)", Samples::busy, x -> x.fold(-3), 7);
        CHECKS.keeps("unfold(7)", Samples::busy, x -> x.unfold(7), -3);
    }
}
