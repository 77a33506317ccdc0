/** The bounds that promises 2 and 18 to 22 name: lengths, all codewords of one length, numbers with sign. */
public final class BoundsOfLengthsTest {
    private static final long TOP = Samples.TOP;
    private static final long HALF = TOP / 2;
    private static final Checks CHECKS = new Checks();

    /** A kind, its parameter, and lengths that no number's codeword has by it. */
    private static final int[][] UNUSED = {
        {1, 0, 0, 2, 4, 124, 126, 127, 199, 200},
        {2, 0, 0, 2, 3, 6, 7, 74, 75, 200},
        {3, 0, 0, 2, 4, 5, 8, 9, 10, 76, 77, 200},
        {4, 0, 0, 1, 91, 92, 200},
        {5, 1000000, 0, 1, 18, 19},
        {6, 0, 0, 2, 124, 126, 127, 200},
        {6, 40, 0, 1, 39, 40, 42, 84, 86, 87, 200},
        {7, 1, 0, 1, 3, 123, 125, 126, 200},
        {7, 16, 0, 16, 18, 33, 35, 67, 69, 85, 102, 200},
    };

    /** A call that takes a length. */
    private interface OfLength {
        long answer(SelfEndingCodes x, int kind, int p, int length);
    }

    private static final OfLength COUNT = (x, kind, p, length) -> x.count(kind, p, length);
    private static final OfLength FIRST = (x, kind, p, length) -> x.first(kind, p, length);
    private static final OfLength BEGUN = (x, kind, p, length) -> x.begun(kind, p, length);

    public static void main(String[] args) {
        lengthOfTheLeastAndTheGreatest();
        lengthOfNoSuchKindParameterOrNumber();
        countFrom0To200();
        countOfTheShortestAndTheLongest();
        countOfLengthsThatNoneHas();
        countWithoutSuchACode();
        firstFrom0To200();
        firstOfTheShortestAndTheLongest();
        firstWhereThereIsNone();
        firstWithoutSuchACode();
        begunFrom0To62();
        begunOfTheShortestAndTheLongest();
        begunCountsNumbersAlone();
        begunWithoutSuchACode();
        foldOfOneAboveZeroOrElse();
        foldUpToTheGreatest();
        foldThatWouldBeMore();
        unfoldOfTheLeastAndTheGreatest();
        unfoldOfNoSuchNumber();
        CHECKS.end();
    }

    private static void tells(String name, OfLength asked, int[] arguments, long want) {
        int kind = arguments[0];
        int p = arguments[1];
        int length = arguments[2];
        CHECKS.keeps(Samples.call(name, kind, p, length), Samples::busy, x -> asked.answer(x, kind, p, length), want);
    }

    private static void counts(int kind, int p, int length, long want) {
        tells("count", COUNT, new int[] {kind, p, length}, want);
    }

    private static void firsts(int kind, int p, int length, long want) {
        tells("first", FIRST, new int[] {kind, p, length}, want);
    }

    private static void begins(int kind, int p, int length, long want) {
        tells("begun", BEGUN, new int[] {kind, p, length}, want);
    }

    private static void noLengths(String name, OfLength asked, int... lengths) {
        for (int[] code : Samples.CODES) {
            for (int length : lengths) {
                CHECKS.illegalAndKeeps(Samples.call(name, code[0], code[1], length), Samples::busy,
                    x -> asked.answer(x, code[0], code[1], length));
            }
        }
    }

    private static void noCodes(String name, OfLength asked, int... lengths) {
        for (int[] code : Samples.NO_CODES) {
            for (int length : lengths) {
                CHECKS.illegalAndKeeps(Samples.call(name, code[0], code[1], length), Samples::busy,
                    x -> asked.answer(x, code[0], code[1], length));
            }
        }
    }

    // ---- promise 2

    private static void lengths(int kind, int p, long ofOne, long ofTop) {
        CHECKS.keeps(Samples.call("length", kind, p, 1), Samples::busy, x -> x.length(kind, p, 1), ofOne);
        CHECKS.keeps(Samples.call("length", kind, p, TOP), Samples::busy, x -> x.length(kind, p, TOP), ofTop);
    }

    /** "How many bits a number's codeword has.": of 1 and of 2^62, with the parameters' bounds. */
    private static void lengthOfTheLeastAndTheGreatest() {
        lengths(0, 0, 1, TOP);
        lengths(1, 0, 1, 125);
        lengths(2, 0, 1, 73);
        lengths(3, 0, 1, 75);
        lengths(4, 0, 2, 90);
        lengths(5, 1, 1, TOP);
        lengths(5, 2, 2, HALF + 1);
        lengths(5, 999999, 20, 4611690630118L + 20);
        lengths(5, 1000000, 20, 4611686018427L + 21);
        lengths(6, 0, 1, 125);
        lengths(6, 1, 2, 124);
        lengths(6, 39, 40, 86);
        lengths(6, 40, 41, 85);
        lengths(7, 1, 2, 124);
        lengths(7, 2, 3, 93);
        lengths(7, 15, 16, 80);
        lengths(7, 16, 17, 68);
        CHECKS.due("length(0, 0, TOP - 1)", new SelfEndingCodes().length(0, 0, TOP - 1), TOP - 1);
        CHECKS.due("length(1, 0, TOP - 1)", new SelfEndingCodes().length(1, 0, TOP - 1), 123);
        CHECKS.due("length(2, 0, TOP - 1)", new SelfEndingCodes().length(2, 0, TOP - 1), 72);
        CHECKS.due("length(3, 0, TOP - 1)", new SelfEndingCodes().length(3, 0, TOP - 1), 74);
    }

    /** "IllegalArgumentException: there is no such kind, parameter, or number." */
    private static void lengthOfNoSuchKindParameterOrNumber() {
        for (int[] code : Samples.NO_CODES) {
            for (long n : new long[] {1, TOP, 0}) {
                CHECKS.illegalAndKeeps(Samples.call("length", code[0], code[1], n), Samples::busy,
                    x -> x.length(code[0], code[1], n));
            }
        }
        for (int[] code : Samples.CODES) {
            for (long n : Samples.NO_NUMBERS) {
                CHECKS.illegalAndKeeps(Samples.call("length", code[0], code[1], n), Samples::busy,
                    x -> x.length(code[0], code[1], n));
            }
        }
    }

    // ---- promise 18

    /** "or length is not 0 to 200." */
    private static void countFrom0To200() {
        noLengths("count", COUNT, -1, -2, 201, 202, Integer.MIN_VALUE, Integer.MAX_VALUE);
        counts(0, 0, 0, 0);
        counts(0, 0, 1, 1);
        counts(0, 0, 199, 1);
        counts(0, 0, 200, 1);
        for (int[] code : Samples.CODES) {
            counts(code[0], code[1], 0, 0);
        }
    }

    /** "How many numbers have codewords of a length.": next to the least and the greatest length. */
    private static void countOfTheShortestAndTheLongest() {
        counts(1, 0, 1, 1);
        counts(1, 0, 3, 2);
        counts(1, 0, 123, 1L << 61);
        counts(1, 0, 125, 1);
        counts(2, 0, 1, 1);
        counts(2, 0, 4, 2);
        counts(2, 0, 72, 1L << 61);
        counts(2, 0, 73, 1);
        counts(3, 0, 1, 1);
        counts(3, 0, 3, 2);
        counts(3, 0, 74, 1L << 61);
        counts(3, 0, 75, 1);
        counts(4, 0, 2, 1);
        counts(4, 0, 3, 1);
        counts(4, 0, 4, 2);
        counts(4, 0, 89, 1100087778366101931L);
        counts(4, 0, 90, TOP - 2880067194370816119L);
        counts(5, 1, 1, 1);
        counts(5, 1, 200, 1);
        counts(5, 2, 2, 2);
        counts(5, 2, 200, 2);
        counts(5, 3, 2, 1);
        counts(5, 3, 3, 3);
        counts(5, 3, 200, 3);
        counts(5, 1000000, 20, 48576);
        counts(5, 1000000, 21, 1000000);
        counts(5, 1000000, 200, 1000000);
        counts(6, 0, 125, 1);
        counts(6, 1, 2, 2);
        counts(6, 1, 124, 2);
        counts(6, 40, 41, 1L << 40);
        counts(6, 40, 43, 1L << 41);
        counts(6, 40, 83, 1L << 61);
        counts(6, 40, 85, 1L << 40);
        counts(7, 1, 2, 2);
        counts(7, 1, 4, 2);
        counts(7, 1, 6, 4);
        counts(7, 1, 124, 1L << 61);
        counts(7, 16, 17, 65536);
        counts(7, 16, 34, (1L << 32) - (1L << 16));
        counts(7, 16, 68, TOP - (1L << 48));
    }

    /** None where no codeword is so long, and none above 2^62. */
    private static void countOfLengthsThatNoneHas() {
        for (int[] unused : UNUSED) {
            for (int i = 2; i < unused.length; i++) {
                counts(unused[0], unused[1], unused[i], 0);
            }
        }
    }

    /** "IllegalArgumentException: there is no such kind, or parameter". */
    private static void countWithoutSuchACode() {
        noCodes("count", COUNT, 0, 20, 200, -1, 201);
    }

    // ---- promise 19

    /** "IllegalArgumentException: as count()." */
    private static void firstFrom0To200() {
        noLengths("first", FIRST, -1, -2, 201, 202, Integer.MIN_VALUE, Integer.MAX_VALUE);
        firsts(0, 0, 0, -1);
        firsts(0, 0, 1, 1);
        firsts(0, 0, 199, 199);
        firsts(0, 0, 200, 200);
    }

    /** "The least number with a codeword of that length": of the least and the greatest length. */
    private static void firstOfTheShortestAndTheLongest() {
        firsts(1, 0, 1, 1);
        firsts(1, 0, 3, 2);
        firsts(1, 0, 123, 1L << 61);
        firsts(1, 0, 125, TOP);
        firsts(2, 0, 1, 1);
        firsts(2, 0, 4, 2);
        firsts(2, 0, 73, TOP);
        firsts(3, 0, 1, 1);
        firsts(3, 0, 6, 4);
        firsts(3, 0, 75, TOP);
        firsts(4, 0, 2, 1);
        firsts(4, 0, 3, 2);
        firsts(4, 0, 90, 2880067194370816120L);
        firsts(5, 1, 200, 200);
        firsts(5, 2, 2, 1);
        firsts(5, 2, 200, 397);
        firsts(5, 3, 2, 1);
        firsts(5, 3, 3, 2);
        firsts(5, 1000000, 20, 1);
        firsts(5, 1000000, 21, 48577);
        firsts(5, 1000000, 200, 179048577L);
        firsts(6, 0, 125, TOP);
        firsts(6, 1, 124, TOP - 1);
        firsts(6, 40, 41, 1);
        firsts(6, 40, 43, (1L << 40) + 1);
        firsts(6, 40, 85, TOP - (1L << 40) + 1);
        firsts(7, 1, 2, 1);
        firsts(7, 1, 4, 3);
        firsts(7, 1, 124, HALF + 1);
        firsts(7, 16, 17, 1);
        firsts(7, 16, 34, 65537);
        firsts(7, 16, 68, (1L << 48) + 1);
    }

    /** "NONE when there is none." */
    private static void firstWhereThereIsNone() {
        for (int[] code : Samples.CODES) {
            firsts(code[0], code[1], 0, -1);
        }
        for (int[] unused : UNUSED) {
            for (int i = 2; i < unused.length; i++) {
                firsts(unused[0], unused[1], unused[i], -1);
            }
        }
    }

    /** "IllegalArgumentException: as count()." */
    private static void firstWithoutSuchACode() {
        noCodes("first", FIRST, 0, 20, 200, -1, 201);
    }

    // ---- promise 20

    /** "or length is not 0 to 62." */
    private static void begunFrom0To62() {
        noLengths("begun", BEGUN, -1, -2, 63, 64, 200, Integer.MIN_VALUE, Integer.MAX_VALUE);
        begins(0, 0, 0, 0);
        begins(0, 0, 1, 1);
        begins(0, 0, 61, HALF - 1);
        begins(0, 0, 62, TOP - 1);
        for (int[] code : Samples.CODES) {
            begins(code[0], code[1], 0, 0);
        }
    }

    /** "How many rows of so many bits begin with a codeword.": next to the shortest, and at 62. */
    private static void begunOfTheShortestAndTheLongest() {
        begins(1, 0, 1, 1);
        begins(1, 0, 2, 2);
        begins(1, 0, 3, 6);
        begins(1, 0, 62, TOP - (1L << 31));
        begins(2, 0, 1, 1);
        begins(2, 0, 3, 4);
        begins(2, 0, 4, 10);
        begins(3, 0, 1, 1);
        begins(3, 0, 2, 2);
        begins(3, 0, 3, 6);
        begins(4, 0, 1, 0);
        begins(4, 0, 2, 1);
        begins(4, 0, 3, 3);
        begins(4, 0, 62, TOP - 10610209857723L);
        begins(5, 1, 62, TOP - 1);
        begins(5, 2, 1, 0);
        begins(5, 2, 2, 2);
        begins(5, 2, 62, TOP - 2);
        begins(5, 1000000, 19, 0);
        begins(5, 1000000, 20, 48576);
        begins(5, 1000000, 21, 2 * 48576 + 1000000);
        begins(5, 1000000, 62, TOP - (1L << 20) + 48576);
        begins(6, 0, 62, TOP - (1L << 31));
        begins(6, 40, 40, 0);
        begins(6, 40, 41, 1L << 40);
        begins(6, 40, 42, 1L << 41);
        begins(6, 40, 43, (1L << 42) + (1L << 41));
        begins(6, 40, 62, TOP - (1L << 51));
        begins(7, 1, 1, 0);
        begins(7, 1, 2, 2);
        begins(7, 1, 3, 4);
        begins(7, 1, 4, 10);
        begins(7, 16, 16, 0);
        begins(7, 16, 17, 65536);
        begins(7, 16, 61, HALF / 2 + HALF / 4 + HALF / 8 - (1L << 43) - (1L << 42));
        begins(7, 16, 62, HALF + HALF / 2 + HALF / 4 - (1L << 44) - (1L << 43));
    }

    /** Each row of 12 bits, tried with take(). */
    private static void begunCountsNumbersAlone() {
        for (int[] code : Samples.CODES) {
            long many = 0;
            for (int row = 0; row < 1 << 12; row++) {
                SelfEndingCodes x = new SelfEndingCodes();
                x.push((long) row << 52, 12);
                many += x.take(code[0], code[1]) == -1 ? 0 : 1;
            }
            begins(code[0], code[1], 12, many);
        }
    }

    /** "IllegalArgumentException: there is no such kind, or parameter". */
    private static void begunWithoutSuchACode() {
        noCodes("begun", BEGUN, 0, 20, 62, -1, 63);
    }

    // ---- promise 21

    private static void folds(long v, long want) {
        CHECKS.keeps(Samples.call("fold", v), Samples::busy, x -> x.fold(v), want);
    }

    /** "2 v for one above 0, else 1 less 2 v." */
    private static void foldOfOneAboveZeroOrElse() {
        folds(-2, 5);
        folds(-1, 3);
        folds(0, 1);
        folds(1, 2);
        folds(2, 4);
    }

    /** "IllegalArgumentException: that would be more than 2^62.": what is not more. */
    private static void foldUpToTheGreatest() {
        folds(HALF - 1, TOP - 2);
        folds(HALF, TOP);
        folds(2 - HALF, TOP - 3);
        folds(1 - HALF, TOP - 1);
    }

    /** "IllegalArgumentException: that would be more than 2^62.": also where 64 bits don't hold it. */
    private static void foldThatWouldBeMore() {
        for (long v : new long[] {HALF + 1, HALF + 2, TOP - 1, TOP, TOP + 1, Long.MAX_VALUE - 1, Long.MAX_VALUE,
            -HALF, -HALF - 1, -TOP + 1, -TOP, -TOP - 1, Long.MIN_VALUE + 1, Long.MIN_VALUE}) {
            CHECKS.illegalAndKeeps(Samples.call("fold", v), Samples::busy, x -> x.fold(v));
        }
    }

    // ---- promise 22

    private static void unfolds(long n, long want) {
        CHECKS.keeps(Samples.call("unfold", n), Samples::busy, x -> x.unfold(n), want);
        CHECKS.due(Samples.call("fold of unfold", n), new SelfEndingCodes().fold(want), n);
    }

    /** "The number with sign that a number stands for." */
    private static void unfoldOfTheLeastAndTheGreatest() {
        unfolds(1, 0);
        unfolds(2, 1);
        unfolds(3, -1);
        unfolds(4, 2);
        unfolds(TOP - 3, 2 - HALF);
        unfolds(TOP - 2, HALF - 1);
        unfolds(TOP - 1, 1 - HALF);
        unfolds(TOP, HALF);
    }

    /** "IllegalArgumentException: there is no such number." */
    private static void unfoldOfNoSuchNumber() {
        for (long n : Samples.NO_NUMBERS) {
            CHECKS.illegalAndKeeps(Samples.call("unfold", n), Samples::busy, x -> x.unfold(n));
        }
    }
}
