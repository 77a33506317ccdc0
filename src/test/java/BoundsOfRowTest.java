/** The bounds that promises 1 and 3 to 10 name: a new object, and the row. */
public final class BoundsOfRowTest {
    private static final long TOP = Samples.TOP;
    private static final int ROOM = 4096;
    private static final Checks CHECKS = new Checks();

    public static void main(String[] args) {
        newObjectHasAnEmptyRow();
        newObjectHasAnEmptyList();
        putToTheLastBit();
        putBehindTheBitsThatStand();
        putThrowsAsLength();
        takeGoesOnBehindTheCodeword();
        takeWhereTheRowEndsBefore();
        takeWhereTheFullRowEndsBefore();
        takeAtTheEnd();
        takeOfTheGreatest();
        takeOfAGreaterOne();
        takeOfOneThatIsFarGreater();
        takeOfTheLongestThatFits();
        takeOfGroupsThatAreTooMany();
        takeWithoutSuchACode();
        pushOfOneTo64();
        pushOfTheHighestBits();
        pushToTheLastBit();
        bitsAtTheEnd();
        bitsAcrossWords();
        bitsWhereThereAreNone();
        sizeFromNoneToFull();
        placeFromTheStartToTheEnd();
        seekFromTheStartToTheEnd();
        seekAsTheRowGrowsAndEnds();
        wipeOfAnEmptyAndAFullRow();
        wipeLeavesNoBit();
        CHECKS.end();
    }

    private static String zeros(int many) {
        return "0".repeat(many);
    }

    private static String ones(int many) {
        return "1".repeat(many);
    }

    /** A number whose codeword is as long as the kind's come to be, and fits into the row. */
    private static long large(int kind) {
        return kind == 0 || kind == 5 ? 1000 : TOP;
    }

    private static long sought(SelfEndingCodes x, int place) {
        x.seek(place);
        return 0;
    }

    private static SelfEndingCodes at(int place, SelfEndingCodes x) {
        x.seek(place);
        return x;
    }

    // ---- promise 1

    /** "An empty row, its place 0". */
    private static void newObjectHasAnEmptyRow() {
        CHECKS.due("size()", new SelfEndingCodes().size(), 0);
        CHECKS.due("place()", new SelfEndingCodes().place(), 0);
        CHECKS.due("bits(0)", new SelfEndingCodes().bits(0), 0);
        CHECKS.due("wipe()", new SelfEndingCodes().wipe(), 0);
        CHECKS.keeps("seek(0)", SelfEndingCodes::new, x -> sought(x, 0), 0);
        CHECKS.outOfBoundsAndKeeps("seek(1)", SelfEndingCodes::new, x -> sought(x, 1));
        for (int[] code : Samples.CODES) {
            CHECKS.noneAndKeeps(Samples.call("take", code[0], code[1]), SelfEndingCodes::new,
                x -> x.take(code[0], code[1]));
        }
    }

    /** "an empty list". */
    private static void newObjectHasAnEmptyList() {
        CHECKS.due("clear()", new SelfEndingCodes().clear(), 0);
        CHECKS.due("add(1)", new SelfEndingCodes().add(1), 1);
        CHECKS.outOfBoundsAndKeeps("get(0)", SelfEndingCodes::new, x -> x.get(0));
        for (int[] code : Samples.CODES) {
            String told = code[0] + ", " + code[1];
            CHECKS.keeps("total " + told, SelfEndingCodes::new, x -> x.total(code[0], code[1]), 0);
            CHECKS.keeps("putAll " + told, SelfEndingCodes::new, x -> x.putAll(code[0], code[1]), 0);
            CHECKS.keeps("takeAll " + told, SelfEndingCodes::new, x -> x.takeAll(code[0], code[1]), 0);
        }
    }

    // ---- promise 3

    /** "NONE when there would be more than 4096." */
    private static void putToTheLastBit() {
        for (int[] code : Samples.CODES) {
            int kind = code[0];
            int p = code[1];
            for (long n : new long[] {1, 2, large(kind)}) {
                int needed = (int) Model.length(kind, p, n);
                String what = Samples.call("put", kind, p, n);
                CHECKS.due(what + " with a bit to spare", Samples.filled(ROOM - needed - 1).put(kind, p, n), ROOM - 1);
                SelfEndingCodes exact = Samples.filled(ROOM - needed);
                CHECKS.due(what + " to the last bit", exact.put(kind, p, n), ROOM);
                CHECKS.due(what + " row", Samples.rowText(exact), ones(ROOM - needed) + Model.codeword(kind, p, n));
                CHECKS.noneAndKeeps(what + " with a bit lacking", () -> Samples.filled(ROOM - needed + 1),
                    x -> x.put(kind, p, n));
            }
            CHECKS.noneAndKeeps(Samples.call("put", kind, p, 1) + " to a full row", Samples::full, x -> x.put(kind, p, 1));
        }
        CHECKS.due("put(0, 0, 4095)", new SelfEndingCodes().put(0, 0, 4095), 4095);
        CHECKS.due("put(0, 0, 4096)", new SelfEndingCodes().put(0, 0, 4096), 4096);
        // Beyond it the lengths lie on both sides of what an int holds.
        for (long n : new long[] {4097, 1L << 31, 1L << 32, (1L << 32) + 1, TOP - 1, TOP}) {
            CHECKS.noneAndKeeps(Samples.call("put", 0, 0, n), SelfEndingCodes::new, x -> x.put(0, 0, n));
            CHECKS.noneAndKeeps(Samples.call("put", 5, 1, n), SelfEndingCodes::new, x -> x.put(5, 1, n));
        }
        CHECKS.noneAndKeeps("put(5, 1000000, TOP)", Samples::busy, x -> x.put(5, 1000000, TOP));
    }

    /** "A number's codeword comes behind the row. Answers how many bits that has then". */
    private static void putBehindTheBitsThatStand() {
        for (int[] code : Samples.CODES) {
            String word = Model.codeword(code[0], code[1], large(code[0]));
            for (int before : new int[] {0, 1, 62, 63, 64, 65, 127, 128, 129}) {
                String what = Samples.call("put", code[0], code[1], large(code[0])) + " behind " + before;
                SelfEndingCodes x = Samples.filled(before);
                x.seek(before / 2);
                CHECKS.due(what, x.put(code[0], code[1], large(code[0])), before + word.length());
                CHECKS.due(what + " row", Samples.rowText(x), ones(before) + word);
                CHECKS.due(what + " place", x.place(), before / 2);
            }
        }
    }

    /** "IllegalArgumentException: as length()." */
    private static void putThrowsAsLength() {
        for (int[] code : Samples.NO_CODES) {
            CHECKS.illegalAndKeeps(Samples.call("length", code[0], code[1], 1), Samples::busy,
                x -> x.length(code[0], code[1], 1));
            CHECKS.illegalAndKeeps(Samples.call("put", code[0], code[1], 1), Samples::busy,
                x -> x.put(code[0], code[1], 1));
        }
        for (int[] code : Samples.CODES) {
            for (long n : Samples.NO_NUMBERS) {
                CHECKS.illegalAndKeeps(Samples.call("put", code[0], code[1], n), Samples::full,
                    x -> x.put(code[0], code[1], n));
            }
        }
    }

    // ---- promise 4

    /** "The number whose codeword stands at the place, which goes on behind it". */
    private static void takeGoesOnBehindTheCodeword() {
        for (int[] code : Samples.CODES) {
            for (long n : new long[] {1, 2, large(code[0])}) {
                String word = Model.codeword(code[0], code[1], n);
                for (int before : new int[] {0, 1, 63, 64, 65}) {
                    for (String behind : new String[] {"", "0", "1", ones(70)}) {
                        String what = Samples.call("take", code[0], code[1]) + " of " + n + " from " + before;
                        SelfEndingCodes x = at(before, Samples.withRow(ones(before) + word + behind));
                        CHECKS.due(what, x.take(code[0], code[1]), n);
                        CHECKS.due(what + " place", x.place(), before + word.length());
                        CHECKS.due(what + " row", Samples.rowText(x), ones(before) + word + behind);
                    }
                }
            }
        }
    }

    /** "NONE when none does (the row ends before": cut at each of its bits. */
    private static void takeWhereTheRowEndsBefore() {
        for (int[] code : Samples.CODES) {
            for (long n : new long[] {1, 2, 5, code[0] == 0 || code[0] == 5 ? 100 : TOP}) {
                String word = Model.codeword(code[0], code[1], n);
                for (int cut = 0; cut < word.length(); cut++) {
                    String row = "1" + word.substring(0, cut);
                    CHECKS.noneAndKeeps(Samples.call("take", code[0], code[1]) + " of " + n + " cut at " + cut,
                        () -> at(1, Samples.withRow(row)), x -> x.take(code[0], code[1]));
                }
            }
        }
    }

    /** The same where the row can't be any longer. */
    private static void takeWhereTheFullRowEndsBefore() {
        for (int[] code : Samples.CODES) {
            String word = Model.codeword(code[0], code[1], large(code[0]));
            int from = ROOM - word.length();
            String what = Samples.call("take", code[0], code[1]);
            SelfEndingCodes whole = at(from, Samples.withRow(ones(from) + word));
            CHECKS.due(what + " to the last bit", whole.take(code[0], code[1]), large(code[0]));
            CHECKS.due(what + " place", whole.place(), ROOM);
            String cut = ones(from + 1) + word.substring(0, word.length() - 1);
            CHECKS.noneAndKeeps(what + " with a bit lacking", () -> at(from + 1, Samples.withRow(cut)),
                x -> x.take(code[0], code[1]));
        }
        for (int[] code : new int[][] {{0, 0}, {3, 0}, {5, 1}, {5, 2}, {5, 1000000}, {7, 1}, {7, 16}}) {
            CHECKS.noneAndKeeps(Samples.call("take", code[0], code[1]) + " of 1s alone", () -> Samples.filled(ROOM),
                x -> x.take(code[0], code[1]));
        }
        for (int[] code : new int[][] {{1, 0}, {2, 0}, {4, 0}, {6, 0}, {6, 1}, {6, 40}}) {
            CHECKS.noneAndKeeps(Samples.call("take", code[0], code[1]) + " of 0s alone",
                () -> Samples.withRow(zeros(ROOM)), x -> x.take(code[0], code[1]));
        }
    }

    /** The same where there is no bit at all from the place on. */
    private static void takeAtTheEnd() {
        for (int[] code : Samples.CODES) {
            String what = Samples.call("take", code[0], code[1]);
            CHECKS.noneAndKeeps(what + " at the end", () -> at(13, Samples.busy()), x -> x.take(code[0], code[1]));
            CHECKS.noneAndKeeps(what + " at a full row's end", Samples::full, x -> x.take(code[0], code[1]));
        }
    }

    private static void stands(int kind, int p, String bits, long n) {
        SelfEndingCodes x = at(3, Samples.withRow("101" + bits));
        CHECKS.due(Samples.call("take", kind, p) + " of " + bits, x.take(kind, p), n);
        CHECKS.due(Samples.call("take", kind, p) + " of " + bits + " place", x.place(), 3 + bits.length());
    }

    private static void none(int kind, int p, String bits) {
        CHECKS.noneAndKeeps(Samples.call("take", kind, p) + " of " + bits, () -> at(3, Samples.withRow("101" + bits)),
            x -> x.take(kind, p));
    }

    /** "or it would be that of a greater one)": 2^62 and the one below it are none of these. */
    private static void takeOfTheGreatest() {
        for (int[] code : Samples.CODES) {
            if (code[0] != 0 && code[0] != 5) {
                stands(code[0], code[1], Model.codeword(code[0], code[1], TOP - 1), TOP - 1);
                stands(code[0], code[1], Model.codeword(code[0], code[1], TOP), TOP);
            }
        }
    }

    /** "or it would be that of a greater one)": 2^62 + 1, and the next of another length. */
    private static void takeOfAGreaterOne() {
        for (int[] code : Samples.CODES) {
            if (code[0] != 0 && code[0] != 5) {
                none(code[0], code[1], Model.codeword(code[0], code[1], TOP + 1));
                none(code[0], code[1], Model.codeword(code[0], code[1], TOP + 2));
                none(code[0], code[1], Model.codeword(code[0], code[1], Long.MAX_VALUE));
            }
        }
        none(1, 0, zeros(62) + "1" + zeros(61) + "1");
        none(1, 0, zeros(63) + "1" + zeros(63));
        none(2, 0, "00000111111" + zeros(61) + "1");
        none(2, 0, "0000001000000" + zeros(63));
        none(3, 0, "10" + "101" + "111110" + "1" + zeros(61) + "1" + "0");
        none(3, 0, "10" + "101" + "111111" + "1" + zeros(63) + "0");
        none(4, 0, zeros(89) + "11");
        none(4, 0, "01".repeat(44) + "011");
        none(6, 1, zeros(61) + "1" + zeros(60) + "1" + "0");
        none(6, 40, zeros(22) + "1" + zeros(21) + "1" + zeros(40));
        none(7, 1, "10".repeat(62) + "01");
        none(7, 2, "100".repeat(31) + "001");
        none(7, 16, ("1" + zeros(16)).repeat(3) + "0" + "01" + zeros(14));
        none(7, 16, ("1" + zeros(16)).repeat(4) + "0" + zeros(15) + "1");
    }

    /** "or it would be that of a greater one)": where even 64 bits would not hold it. */
    private static void takeOfOneThatIsFarGreater() {
        for (int more : new int[] {64, 65, 127, 128, 129, 1000, 2040}) {
            none(1, 0, zeros(more) + "1" + zeros(more));
            none(1, 0, zeros(more) + "1" + ones(more));
            none(6, 0, zeros(more) + "1" + zeros(more));
            none(6, 1, zeros(more) + "1" + zeros(more));
            none(6, 40, zeros(more - 40) + "1" + zeros(more - 40) + zeros(40));
            none(4, 0, zeros(more + 60) + "11");
            none(4, 0, "10".repeat(more) + "11");
            none(7, 1, "10".repeat(more) + "01");
            none(7, 1, "11".repeat(more) + "01");
        }
        for (int bits : new int[] {64, 65, 96, 127, 128, 129, 256, 1024, 4000}) {
            none(2, 0, Model.codeword(1, 0, bits) + zeros(bits - 1));
            none(2, 0, Model.codeword(1, 0, bits) + ones(bits - 1));
            String length = Model.codeword(3, 0, bits - 1);
            none(3, 0, length.substring(0, length.length() - 1) + "1" + zeros(bits - 1) + "0");
        }
        none(2, 0, zeros(62) + "1" + zeros(62));
        none(2, 0, zeros(62) + "1" + zeros(62) + zeros(3000));
        none(3, 0, "10" + "101" + "111110" + "1" + zeros(62) + "1" + zeros(3000));
        none(3, 0, ones(4000));
        for (int p = 1; p <= 16; p++) {
            none(7, p, ("1" + zeros(p)).repeat(200) + "0" + zeros(p - 1) + "1");
            none(7, p, ("1" + ones(p)).repeat(200) + "0" + ones(p));
        }
    }

    /** By kinds 0 and 5 the row ends before a number could be too great. */
    private static void takeOfTheLongestThatFits() {
        CHECKS.due("take(0, 0)", Samples.withRow(ones(4095) + "0").take(0, 0), 4096);
        CHECKS.due("take(5, 1)", Samples.withRow(ones(4095) + "0").take(5, 1), 4096);
        CHECKS.due("take(5, 2)", Samples.withRow(ones(4094) + "01").take(5, 2), 8190);
        CHECKS.due("take(5, 1000000)", Samples.withRow(ones(4075) + "0" + ones(20)).take(5, 1000000), 4076000000L);
        CHECKS.due("take(5, 1000000)", Samples.withRow(ones(4076) + "0" + zeros(19)).take(5, 1000000), 4076000001L);
        CHECKS.noneAndKeeps("take(5, 2)", () -> Samples.withRow(ones(4095) + "0"), x -> x.take(5, 2));
        CHECKS.noneAndKeeps("take(5, 1000000)", () -> Samples.withRow(ones(4076) + "0" + ones(19)),
            x -> x.take(5, 1000000));
        CHECKS.noneAndKeeps("take(5, 1000000)", () -> Samples.withRow(ones(4077) + "0" + zeros(18)),
            x -> x.take(5, 1000000));
    }

    /** "as many as it takes, one at least": with one group that it does not take it is no codeword. */
    private static void takeOfGroupsThatAreTooMany() {
        for (int p = 1; p <= 16; p++) {
            stands(7, p, "0" + zeros(p), 1);
            none(7, p, "1" + zeros(p) + "0" + zeros(p));
            none(7, p, "1" + ones(p) + "0" + zeros(p));
            stands(7, p, "1" + zeros(p) + "0" + zeros(p - 1) + "1", (1L << p) + 1);
            stands(7, p, "1" + zeros(p) + "1" + zeros(p) + "0" + zeros(p - 1) + "1", (1L << 2 * p) + 1);
        }
        none(7, 1, "10".repeat(61) + "00");
        none(7, 1, "11".repeat(62) + "00");
    }

    /** "IllegalArgumentException: there is no such kind, or parameter." */
    private static void takeWithoutSuchACode() {
        for (int[] code : Samples.NO_CODES) {
            String what = Samples.call("take", code[0], code[1]);
            CHECKS.illegalAndKeeps(what, Samples::busy, x -> x.take(code[0], code[1]));
            CHECKS.illegalAndKeeps(what + " of a new one", SelfEndingCodes::new, x -> x.take(code[0], code[1]));
            CHECKS.illegalAndKeeps(what + " at the end", Samples::full, x -> x.take(code[0], code[1]));
        }
    }

    // ---- promise 5

    /** "IllegalArgumentException: n is not 1 to 64." */
    private static void pushOfOneTo64() {
        for (int n : new int[] {0, -1, 65, 66, 128, Integer.MIN_VALUE, Integer.MAX_VALUE}) {
            String what = Samples.call("push", -1, n);
            CHECKS.illegalAndKeeps(what, Samples::busy, x -> x.push(-1, n));
            CHECKS.illegalAndKeeps(what + " of a new one", SelfEndingCodes::new, x -> x.push(-1, n));
            CHECKS.illegalAndKeeps(what + " of a full one", Samples::full, x -> x.push(-1, n));
        }
        for (int n : new int[] {1, 2, 63, 64}) {
            SelfEndingCodes x = new SelfEndingCodes();
            CHECKS.due(Samples.call("push", -1, n), x.push(-1, n), n);
            CHECKS.due(Samples.call("push", -1, n) + " row", Samples.rowText(x), ones(n));
        }
    }

    /** "The n highest bits of v come behind the row, the highest first." */
    private static void pushOfTheHighestBits() {
        pushes(Long.MIN_VALUE, 1, "1");
        pushes(Long.MAX_VALUE, 1, "0");
        pushes(Long.MAX_VALUE, 2, "01");
        pushes(1, 63, zeros(63));
        pushes(1, 64, zeros(63) + "1");
        pushes(0, 64, zeros(64));
        pushes(-2, 63, ones(63));
        pushes(-2, 64, ones(63) + "0");
        pushes(0xC3A5F00F12345679L, 12, "110000111010");
    }

    private static void pushes(long v, int n, String want) {
        for (int before : new int[] {0, 1, 63, 64, 65, 4096 - n}) {
            String what = Samples.call("push", v, n) + " behind " + before;
            SelfEndingCodes x = Samples.withRow(ones(before));
            CHECKS.due(what, x.push(v, n), before + n);
            CHECKS.due(what + " row", Samples.rowText(x), ones(before) + want);
            CHECKS.due(what + " place", x.place(), 0);
        }
    }

    /** "NONE when there would be more than 4096." */
    private static void pushToTheLastBit() {
        for (int n = 1; n <= 64; n++) {
            int bits = n;
            String what = Samples.call("push", -1, n);
            CHECKS.due(what + " with a bit to spare", Samples.filled(ROOM - n - 1).push(-1, n), ROOM - 1);
            CHECKS.due(what + " to the last bit", Samples.filled(ROOM - n).push(-1, n), ROOM);
            CHECKS.noneAndKeeps(what + " with a bit lacking", () -> Samples.withRow(zeros(ROOM - bits + 1)),
                x -> x.push(-1, bits));
            CHECKS.noneAndKeeps(what + " of a full one", Samples::full, x -> x.push(0, bits));
        }
    }

    // ---- promise 6

    /** "64 bits of the row from bit i on, the first one the highest; 0 where there are none." */
    private static void bitsAtTheEnd() {
        for (int size : new int[] {1, 63, 64, 65, 127, 128, 129, 4095, 4096}) {
            SelfEndingCodes x = Samples.filled(size);
            CHECKS.due("the last of " + size, x.bits(size - 1), Long.MIN_VALUE);
            CHECKS.due("behind the last of " + size, x.bits(size), 0);
            CHECKS.due("far behind the last of " + size, x.bits(size + 1), 0);
            if (size >= 64) {
                CHECKS.due("the last 64 of " + size, x.bits(size - 64), -1L);
                CHECKS.due("the last 63 of " + size, x.bits(size - 63), -2L);
            }
            if (size >= 65) {
                CHECKS.due("all but the last of 65 of " + size, x.bits(size - 65), -1L);
            }
        }
        CHECKS.due("bits(0) of one 1", Samples.filled(1).bits(0), Long.MIN_VALUE);
        CHECKS.due("bits(0) of 63 1s", Samples.filled(63).bits(0), -2L);
        CHECKS.due("bits(0) of 64 1s", Samples.filled(64).bits(0), -1L);
    }

    private static void bitsAcrossWords() {
        long v = 0x8123456789ABCDEFL;
        SelfEndingCodes x = new SelfEndingCodes();
        x.push(v, 64);
        x.push(~v, 64);
        CHECKS.due("bits(0)", x.bits(0), v);
        for (int i = 1; i < 64; i++) {
            CHECKS.due(Samples.call("bits", i), x.bits(i), v << i | ~v >>> (64 - i));
            CHECKS.due(Samples.call("bits", 64 + i), x.bits(64 + i), ~v << i);
        }
        CHECKS.due("bits(64)", x.bits(64), ~v);
        CHECKS.due("bits(128)", x.bits(128), 0);
    }

    /** "0 where there are none": in front of the row as behind it, for every i. */
    private static void bitsWhereThereAreNone() {
        SelfEndingCodes x = Samples.full();
        CHECKS.due("bits(-1)", x.bits(-1), Long.MAX_VALUE);
        CHECKS.due("bits(-63)", x.bits(-63), 1);
        CHECKS.due("bits(-64)", x.bits(-64), 0);
        CHECKS.due("bits(-65)", x.bits(-65), 0);
        for (int i : new int[] {4096, 4097, 4160, Integer.MAX_VALUE, Integer.MAX_VALUE - 62, Integer.MAX_VALUE - 63,
            Integer.MIN_VALUE, Integer.MIN_VALUE + 1, -4096}) {
            CHECKS.due(Samples.call("bits", i), x.bits(i), 0);
            CHECKS.due(Samples.call("bits", i) + " of a new one", new SelfEndingCodes().bits(i), 0);
        }
    }

    // ---- promises 7 and 8

    /** "How many bits the row has." */
    private static void sizeFromNoneToFull() {
        for (int size : new int[] {0, 1, 63, 64, 65, 4095, 4096}) {
            CHECKS.due("size()", Samples.filled(size).size(), size);
        }
        SelfEndingCodes x = Samples.filled(4096);
        x.takeAll(1, 0);
        CHECKS.due("size() after reading", x.size(), 4096);
    }

    /** "The place, from 0 on." */
    private static void placeFromTheStartToTheEnd() {
        SelfEndingCodes x = Samples.filled(4096);
        CHECKS.due("place() of a row that was not read", x.place(), 0);
        x.take(1, 0);
        CHECKS.due("place() behind one bit", x.place(), 1);
        x.seek(4095);
        x.take(1, 0);
        CHECKS.due("place() behind the last bit", x.place(), 4096);
        x.take(1, 0);
        CHECKS.due("place() where it can't go on", x.place(), 4096);
    }

    // ---- promise 9

    /** "IndexOutOfBoundsException: it is not 0 to the row's end." */
    private static void seekFromTheStartToTheEnd() {
        for (int size : new int[] {0, 1, 2, 13, 64, 4095, 4096}) {
            for (int place : new int[] {0, Math.min(1, size), Math.max(0, size - 1), size}) {
                SelfEndingCodes x = Samples.filled(size);
                x.seek(place);
                CHECKS.due(Samples.call("seek", place) + " of " + size, x.place(), place);
            }
            for (int place : new int[] {-1, -2, size + 1, size + 2, 4097, Integer.MIN_VALUE, Integer.MAX_VALUE}) {
                CHECKS.outOfBoundsAndKeeps(Samples.call("seek", place) + " of " + size,
                    () -> at(size / 2, Samples.filled(size)), x -> sought(x, place));
            }
        }
    }

    /** The row's end is the one that it has then. */
    private static void seekAsTheRowGrowsAndEnds() {
        SelfEndingCodes x = Samples.filled(13);
        CHECKS.outOfBounds("seek(14) of 13", () -> sought(x, 14));
        x.push(0, 1);
        x.seek(14);
        CHECKS.due("seek(14) of 14", x.place(), 14);
        x.wipe();
        CHECKS.outOfBounds("seek(14) after wipe()", () -> sought(x, 14));
        CHECKS.outOfBounds("seek(1) after wipe()", () -> sought(x, 1));
        x.seek(0);
        CHECKS.due("seek(0) after wipe()", x.place(), 0);
    }

    // ---- promise 10

    /** "The row is empty, its place 0. Answers how many bits it had." */
    private static void wipeOfAnEmptyAndAFullRow() {
        for (int size : new int[] {0, 1, 64, 4095, 4096}) {
            SelfEndingCodes x = Samples.filled(size);
            x.seek(size);
            x.add(9);
            CHECKS.due("wipe() of " + size, x.wipe(), size);
            CHECKS.due("state after wipe() of " + size, Samples.stateText(x), Samples.stateText(Samples.withList(9)));
            CHECKS.due("wipe() again", x.wipe(), 0);
        }
    }

    /** What was in the row does not come back, and all of its room is there again. */
    private static void wipeLeavesNoBit() {
        for (int[] code : Samples.CODES) {
            SelfEndingCodes x = Samples.filled(4096);
            x.wipe();
            x.put(code[0], code[1], large(code[0]));
            CHECKS.due(Samples.call("put", code[0], code[1], large(code[0])) + " after wipe()", Samples.rowText(x),
                Model.codeword(code[0], code[1], large(code[0])));
        }
        SelfEndingCodes x = Samples.filled(4096);
        x.wipe();
        Samples.pushText(x, zeros(4096));
        CHECKS.due("4096 0s after wipe()", Samples.rowText(x), zeros(4096));
        CHECKS.due("push(0, 1) then", x.push(0, 1), -1);
    }
}
