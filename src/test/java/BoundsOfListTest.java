/** The bounds that promises 11 to 17 name: the list, and what goes from it to the row and back. */
public final class BoundsOfListTest {
    private static final long TOP = Samples.TOP;
    private static final Checks CHECKS = new Checks();

    public static void main(String[] args) {
        addUpTo100();
        addOfNoSuchNumber();
        getFromTheFirstToTheLast();
        getAsTheListGrowsAndEnds();
        clearOfAnEmptyAndAFullList();
        clearLeavesRoomFor100();
        totalOfNothing();
        totalUpToItsGreatest();
        totalFarAboveItsGreatest();
        totalWithoutSuchACode();
        bestOfKinds5To7();
        bestUpToMost();
        bestWithMostThatIsNone();
        bestIsTheLeastOfSeveral();
        bestWhereTotalsAreTooGreat();
        putAllToTheLastBit();
        putAllAsLongAsThereIsRoom();
        putAllOfNothing();
        putAllWithoutSuchACode();
        takeAllUpTo100();
        takeAllToWhereNoneStands();
        takeAllOfNothing();
        takeAllInPlaceOfTheListThatWas();
        takeAllWithoutSuchACode();
        CHECKS.end();
    }

    private static String zeros(int many) {
        return "0".repeat(many);
    }

    private static String ones(int many) {
        return "1".repeat(many);
    }

    /** So many numbers, the same each, as listText() tells them. */
    private static String times(int many, long n) {
        return (n + " ").repeat(many).trim();
    }

    // ---- promise 11

    /** "A number more in the list. Answers how many it has; NONE when it has 100." */
    private static void addUpTo100() {
        SelfEndingCodes x = new SelfEndingCodes();
        for (int i = 1; i <= 100; i++) {
            CHECKS.due("add() number " + i, x.add(1000 + i), i);
        }
        for (int i = 1; i <= 100; i++) {
            CHECKS.due("number " + i, x.get(i - 1), 1000 + i);
        }
        CHECKS.noneAndKeeps("add(1) to 100", Samples::full, full -> full.add(1));
        CHECKS.noneAndKeeps("add(2^62) to 100", Samples::full, full -> full.add(TOP));
        SelfEndingCodes more = Samples.full();
        CHECKS.due("add() number 101", more.add(8), -1);
        CHECKS.due("add() number 101 again", more.add(8), -1);
        CHECKS.due("clear() then", more.clear(), 100);
    }

    /** "IllegalArgumentException: there is no such number." */
    private static void addOfNoSuchNumber() {
        for (long n : Samples.NO_NUMBERS) {
            CHECKS.illegalAndKeeps(Samples.call("add", n), Samples::busy, x -> x.add(n));
            CHECKS.illegalAndKeeps(Samples.call("add", n) + " to 99", () -> Samples.withNumbers(99, 5), x -> x.add(n));
            CHECKS.illegalAndKeeps(Samples.call("add", n) + " to 100", Samples::full, x -> x.add(n));
        }
        for (long n : new long[] {1, 2, TOP - 1, TOP}) {
            SelfEndingCodes x = new SelfEndingCodes();
            CHECKS.due(Samples.call("add", n), x.add(n), 1);
            CHECKS.due(Samples.call("add", n) + " get(0)", x.get(0), n);
        }
    }

    // ---- promise 12

    /** "Number i of the list. IndexOutOfBoundsException: there is none." */
    private static void getFromTheFirstToTheLast() {
        for (int many : new int[] {0, 1, 2, 99, 100}) {
            Samples.Maker state = () -> counted(many);
            for (int i : new int[] {0, 1, many - 2, many - 1}) {
                if (i >= 0 && i < many) {
                    CHECKS.keeps(Samples.call("get", i) + " of " + many, state, x -> x.get(i), 10 + i);
                }
            }
            for (int i : new int[] {-1, -2, many, many + 1, 100, 101, Integer.MIN_VALUE, Integer.MAX_VALUE}) {
                CHECKS.outOfBoundsAndKeeps(Samples.call("get", i) + " of " + many, state, x -> x.get(i));
            }
        }
    }

    /** The list 10, 11, 12, .. */
    private static SelfEndingCodes counted(int many) {
        SelfEndingCodes x = new SelfEndingCodes();
        for (int i = 0; i < many; i++) {
            x.add(10 + i);
        }
        return x;
    }

    /** There is none where there is none any more, or not yet. */
    private static void getAsTheListGrowsAndEnds() {
        SelfEndingCodes x = counted(5);
        CHECKS.outOfBounds("get(5) of 5", () -> x.get(5));
        x.add(77);
        CHECKS.due("get(5) of 6", x.get(5), 77);
        x.clear();
        CHECKS.outOfBounds("get(5) after clear()", () -> x.get(5));
        CHECKS.outOfBounds("get(0) after clear()", () -> x.get(0));
        x.push(0, 2);
        x.takeAll(0, 0);
        CHECKS.due("get(1) after takeAll() of 2", x.get(1), 1);
        CHECKS.outOfBounds("get(2) after takeAll() of 2", () -> x.get(2));
    }

    // ---- promise 13

    /** "The list is empty. Answers how many it had." */
    private static void clearOfAnEmptyAndAFullList() {
        for (int many : new int[] {0, 1, 99, 100}) {
            SelfEndingCodes x = counted(many);
            Samples.pushText(x, "10110");
            x.seek(4);
            CHECKS.due("clear() of " + many, x.clear(), many);
            CHECKS.due("list after clear() of " + many, Samples.listText(x), "");
            CHECKS.due("row after clear() of " + many, Samples.rowText(x), "10110");
            CHECKS.due("place after clear() of " + many, x.place(), 4);
            CHECKS.due("clear() again", x.clear(), 0);
        }
    }

    private static void clearLeavesRoomFor100() {
        SelfEndingCodes x = counted(100);
        x.clear();
        CHECKS.due("total(1, 0) after clear()", x.total(1, 0), 0);
        CHECKS.due("putAll(1, 0) after clear()", x.putAll(1, 0), 0);
        for (int i = 1; i <= 100; i++) {
            CHECKS.due("add() number " + i + " after clear()", x.add(4), i);
        }
        CHECKS.due("add() number 101 after clear()", x.add(4), -1);
    }

    // ---- promise 14

    private static void totals(int kind, int p, long want, long... numbers) {
        CHECKS.keeps(Samples.call("total", kind, p) + " of " + Samples.listText(Samples.withList(numbers)),
            () -> Samples.withList(numbers), x -> x.total(kind, p), want);
    }

    /** "How many bits the list's codewords have together": an empty one, one, a full one. */
    private static void totalOfNothing() {
        for (int[] code : Samples.CODES) {
            totals(code[0], code[1], 0);
            totals(code[0], code[1], Model.length(code[0], code[1], 1), 1);
            CHECKS.keeps(Samples.call("total", code[0], code[1]) + " of 100", Samples::full,
                x -> x.total(code[0], code[1]), 100 * Model.length(code[0], code[1], 3));
        }
    }

    /** "4611686018427387904 if more": that, one less, and one more. */
    private static void totalUpToItsGreatest() {
        totals(0, 0, TOP - 1, TOP - 1);
        totals(0, 0, TOP, TOP);
        totals(0, 0, TOP - 1, TOP - 2, 1);
        totals(0, 0, TOP, TOP - 1, 1);
        totals(0, 0, TOP, TOP, 1);
        totals(0, 0, TOP, TOP - 1, 2);
        totals(0, 0, TOP - 1, 1, TOP - 2);
        totals(0, 0, TOP, 1, TOP - 1);
        totals(0, 0, TOP, 1, TOP);
        totals(5, 1, TOP - 1, TOP / 2, TOP / 2 - 1);
        totals(5, 1, TOP, TOP / 2, TOP / 2);
        totals(5, 1, TOP, TOP / 2, TOP / 2 + 1);
        totals(5, 2, TOP / 2 + 1, TOP);
        totals(5, 2, TOP - 1, TOP, TOP - 6);
        totals(5, 2, TOP, TOP, TOP - 4);
        totals(5, 2, TOP, TOP, TOP - 2);
    }

    /** "4611686018427387904 if more": where even 64 bits would not hold the sum. */
    private static void totalFarAboveItsGreatest() {
        for (int many : new int[] {2, 3, 4, 5, 8, 99, 100}) {
            Samples.Maker state = () -> Samples.withNumbers(many, TOP);
            CHECKS.keeps("total(0, 0) of 2^62, " + many + " times", state, x -> x.total(0, 0), TOP);
            CHECKS.keeps("total(5, 1) of 2^62, " + many + " times", state, x -> x.total(5, 1), TOP);
            CHECKS.keeps("total(1, 0) of 2^62, " + many + " times", state, x -> x.total(1, 0), 125L * many);
        }
        totals(0, 0, TOP, TOP, TOP, TOP, TOP, 1);
        totals(0, 0, TOP, TOP, TOP, TOP, TOP, TOP, TOP, TOP, TOP, 5);
    }

    /** "IllegalArgumentException: there is no such kind, or parameter." */
    private static void totalWithoutSuchACode() {
        for (int[] code : Samples.NO_CODES) {
            String what = Samples.call("total", code[0], code[1]);
            CHECKS.illegalAndKeeps(what, Samples::busy, x -> x.total(code[0], code[1]));
            CHECKS.illegalAndKeeps(what + " of nothing", SelfEndingCodes::new, x -> x.total(code[0], code[1]));
        }
    }

    // ---- promise 15

    /** "IllegalArgumentException: kind is not 5 to 7". */
    private static void bestOfKinds5To7() {
        for (int most : new int[] {0, 1, 16}) {
            for (int kind : new int[] {-1, 0, 1, 2, 3, 4, 8, 9, Integer.MIN_VALUE, Integer.MAX_VALUE}) {
                CHECKS.illegalAndKeeps(Samples.call("best", kind, most), Samples::busy, x -> x.best(kind, most));
            }
        }
        CHECKS.keeps("best(5, 1)", Samples::busy, x -> x.best(5, 1), 1);
        CHECKS.keeps("best(6, 1)", Samples::busy, x -> x.best(6, 1), 0);
        CHECKS.keeps("best(7, 1)", Samples::busy, x -> x.best(7, 1), 1);
    }

    private static void bests(int kind, int most, int want, long... numbers) {
        CHECKS.keeps(Samples.call("best", kind, most) + " of " + Samples.listText(Samples.withList(numbers)),
            () -> Samples.withList(numbers), x -> x.best(kind, most), want);
    }

    /** "The parameter, up to most": it may be most itself, but none above it. */
    private static void bestUpToMost() {
        bests(5, 1, 1, 100000000);
        bests(5, 2, 2, 100000000);
        bests(5, 499, 499, 100000000);
        bests(5, 500, 500, 100000000);
        bests(6, 0, 0, TOP);
        bests(6, 1, 1, TOP);
        bests(6, 39, 39, TOP);
        bests(6, 40, 40, TOP);
        bests(7, 1, 1, 60000);
        bests(7, 2, 2, 60000);
        bests(7, 15, 8, 60000);
        bests(7, 16, 16, 60000);
    }

    /** "or most is none of its parameters, or above 500." */
    private static void bestWithMostThatIsNone() {
        int[][] wrong = {
            {5, 0}, {5, -1}, {5, Integer.MIN_VALUE}, {5, 501}, {5, 502}, {5, 1000000}, {5, 1000001}, {5, Integer.MAX_VALUE},
            {6, -1}, {6, Integer.MIN_VALUE}, {6, 41}, {6, 500}, {6, 501}, {6, Integer.MAX_VALUE},
            {7, 0}, {7, -1}, {7, Integer.MIN_VALUE}, {7, 17}, {7, 500}, {7, 501}, {7, Integer.MAX_VALUE},
        };
        for (int[] asked : wrong) {
            String what = Samples.call("best", asked[0], asked[1]);
            CHECKS.illegalAndKeeps(what, Samples::busy, x -> x.best(asked[0], asked[1]));
            CHECKS.illegalAndKeeps(what + " of nothing", SelfEndingCodes::new, x -> x.best(asked[0], asked[1]));
        }
    }

    /** "the least of several": with nothing in the list all are the same, and elsewhere some are. */
    private static void bestIsTheLeastOfSeveral() {
        for (int most : new int[] {1, 2, 500}) {
            bests(5, most, 1);
        }
        for (int most : new int[] {0, 1, 40}) {
            bests(6, most, 0);
        }
        for (int most : new int[] {1, 2, 16}) {
            bests(7, most, 1);
        }
        bests(5, 500, 1, 1);
        bests(5, 500, 1, 2);
        bests(5, 500, 1, 3);
        bests(5, 500, 2, 4);
        bests(6, 40, 0, 1);
        bests(6, 40, 1, 2);
        bests(6, 40, 0, 3);
        bests(6, 40, 0, 1, 2);
        bests(7, 16, 1, 1);
        bests(7, 16, 2, 3);
        bests(7, 16, 7, 7, 1, TOP);
    }

    /** "(as total() tells it)": sums above 2^62 are told as 2^62, so they are the same. */
    private static void bestWhereTotalsAreTooGreat() {
        bests(5, 1, 1, TOP, TOP);
        bests(5, 2, 1, TOP, TOP);
        bests(5, 3, 3, TOP, TOP);
        bests(5, 2, 2, TOP);
        bests(5, 3, 1, TOP, TOP, TOP);
        bests(5, 4, 4, TOP, TOP, TOP);
        CHECKS.keeps("best(5, 99) of 2^62, 100 times", () -> Samples.withNumbers(100, TOP), x -> x.best(5, 99), 1);
        CHECKS.keeps("best(5, 100) of 2^62, 100 times", () -> Samples.withNumbers(100, TOP), x -> x.best(5, 100), 1);
        CHECKS.keeps("best(5, 101) of 2^62, 100 times", () -> Samples.withNumbers(100, TOP), x -> x.best(5, 101), 101);
    }

    // ---- promise 16

    private static void putsAll(SelfEndingCodes x, int kind, int p, int want, String row) {
        String list = Samples.listText(x);
        String what = Samples.call("putAll", kind, p) + " of " + list;
        int place = x.place();
        CHECKS.due(what, x.putAll(kind, p), want);
        CHECKS.due(what + " row", Samples.rowText(x), row);
        CHECKS.due(what + " behind the row", x.bits(row.length()), 0);
        CHECKS.due(what + " place", x.place(), place);
        CHECKS.due(what + " list", Samples.listText(x), list);
    }

    /** "as long as there is room for each. Answers how many did.": to the last bit, one less, one more. */
    private static void putAllToTheLastBit() {
        putsAll(Samples.withList(4000, 95), 0, 0, 2, ones(3999) + "0" + ones(94) + "0");
        putsAll(Samples.withList(4000, 96), 0, 0, 2, ones(3999) + "0" + ones(95) + "0");
        putsAll(Samples.withList(4000, 97), 0, 0, 1, ones(3999) + "0");
        putsAll(Samples.withList(4096, 1), 0, 0, 1, ones(4095) + "0");
        putsAll(Samples.withList(4097, 1), 0, 0, 0, "");
        String forty = (ones(39) + "0").repeat(100);
        putsAll(Samples.withNumbers(100, 40), 0, 0, 100, forty);
        putsAll(Samples.withNumbers(100, 41), 0, 0, 99, (ones(40) + "0").repeat(99));
        for (int[] code : Samples.CODES) {
            long n = code[0] == 0 || code[0] == 5 ? 1000 : TOP;
            String word = Model.codeword(code[0], code[1], n);
            int room = 4096 - 2 * word.length();
            putsAll(behind(room - 1, n, n, n), code[0], code[1], 2, ones(room - 1) + word + word);
            putsAll(behind(room, n, n, n), code[0], code[1], 2, ones(room) + word + word);
            putsAll(behind(room + 1, n, n, n), code[0], code[1], 1, ones(room + 1) + word);
        }
    }

    /** A list, and so many bits in the row, the place inside them. */
    private static SelfEndingCodes behind(int bits, long... numbers) {
        SelfEndingCodes x = Samples.withList(numbers);
        Samples.pushText(x, ones(bits));
        x.seek(bits / 3);
        return x;
    }

    /** "as long as there is room for each": a shorter one behind one without room does not come. */
    private static void putAllAsLongAsThereIsRoom() {
        putsAll(Samples.withList(10, 5000, 3), 0, 0, 1, ones(9) + "0");
        putsAll(Samples.withList(5000, 1, 1), 0, 0, 0, "");
        putsAll(Samples.withList(1, 2, TOP, 1), 0, 0, 2, "010");
        putsAll(Samples.withList(1, 2, 1L << 32, 1), 5, 1, 2, "010");
        putsAll(Samples.withList(1, TOP, 1), 5, 1000000, 1, zeros(20));
        putsAll(behind(4095, 2, 1), 1, 0, 0, ones(4095));
        putsAll(behind(4095, 1, 2), 1, 0, 1, ones(4096));
    }

    /** An empty list, and a full row. */
    private static void putAllOfNothing() {
        for (int[] code : Samples.CODES) {
            String what = Samples.call("putAll", code[0], code[1]);
            CHECKS.keeps(what + " of nothing", () -> Samples.withRow("10"), x -> x.putAll(code[0], code[1]), 0);
            CHECKS.keeps(what + " to a full row", Samples::full, x -> x.putAll(code[0], code[1]), 0);
        }
    }

    /** "IllegalArgumentException: there is no such kind, or parameter." */
    private static void putAllWithoutSuchACode() {
        for (int[] code : Samples.NO_CODES) {
            String what = Samples.call("putAll", code[0], code[1]);
            CHECKS.illegalAndKeeps(what, Samples::busy, x -> x.putAll(code[0], code[1]));
            CHECKS.illegalAndKeeps(what + " of nothing", SelfEndingCodes::new, x -> x.putAll(code[0], code[1]));
            CHECKS.illegalAndKeeps(what + " of a full one", Samples::full, x -> x.putAll(code[0], code[1]));
        }
    }

    // ---- promise 17

    private static void takesAll(SelfEndingCodes x, int kind, int p, int want, String list, int place) {
        String row = Samples.rowText(x);
        String what = Samples.call("takeAll", kind, p) + " of " + row;
        CHECKS.due(what, x.takeAll(kind, p), want);
        CHECKS.due(what + " list", Samples.listText(x), list);
        CHECKS.due(what + " place", x.place(), place);
        CHECKS.due(what + " row", Samples.rowText(x), row);
    }

    /** "one behind the other, up to 100; the place goes on behind them." */
    private static void takeAllUpTo100() {
        for (int many : new int[] {1, 2, 99, 100, 101, 4096}) {
            int due = Math.min(many, 100);
            takesAll(Samples.withRow(zeros(many)), 0, 0, due, times(due, 1), due);
        }
        String word = Model.codeword(7, 16, 65537);
        takesAll(Samples.withRow(word.repeat(99)), 7, 16, 99, times(99, 65537), 99 * 34);
        takesAll(Samples.withRow(word.repeat(100)), 7, 16, 100, times(100, 65537), 3400);
        takesAll(Samples.withRow(word.repeat(101)), 7, 16, 100, times(100, 65537), 3400);
        SelfEndingCodes rest = Samples.withRow(zeros(101));
        rest.takeAll(0, 0);
        takesAll(rest, 0, 0, 1, "1", 101);
    }

    /** "The list becomes the numbers that stand from the place on": to one that is cut, or too great. */
    private static void takeAllToWhereNoneStands() {
        for (int[] code : Samples.CODES) {
            long n = code[0] == 0 || code[0] == 5 ? 1000 : TOP;
            String two = Model.codeword(code[0], code[1], 2) + Model.codeword(code[0], code[1], n);
            String last = Model.codeword(code[0], code[1], 5);
            takesAll(Samples.withRow(two), code[0], code[1], 2, "2 " + n, two.length());
            takesAll(Samples.withRow(two + last), code[0], code[1], 3, "2 " + n + " 5", two.length() + last.length());
            takesAll(Samples.withRow(two + last.substring(0, last.length() - 1)), code[0], code[1], 2, "2 " + n,
                two.length());
            if (n == TOP) {
                String great = Model.codeword(code[0], code[1], TOP + 1);
                takesAll(Samples.withRow(two + great + last), code[0], code[1], 2, "2 " + n, two.length());
            }
        }
        SelfEndingCodes x = Samples.withRow("11" + "00101" + "1");
        x.seek(2);
        takesAll(x, 1, 0, 2, "5 1", 8);
    }

    /** None stands there: the list becomes empty, and the place has nothing to go on behind. */
    private static void takeAllOfNothing() {
        for (int[] code : Samples.CODES) {
            takesAll(Samples.full(), code[0], code[1], 0, "", 4096);
            takesAll(Samples.withList(5, 6), code[0], code[1], 0, "", 0);
        }
        SelfEndingCodes cut = Samples.withList(5, 6);
        Samples.pushText(cut, "100");
        cut.seek(1);
        takesAll(cut, 1, 0, 0, "", 1);
    }

    /** "The list becomes the numbers": none of those before stay, and a full list does not stop it. */
    private static void takeAllInPlaceOfTheListThatWas() {
        SelfEndingCodes x = Samples.withNumbers(100, 9);
        Samples.pushText(x, "0" + "10");
        takesAll(x, 0, 0, 2, "1 2", 3);
        CHECKS.due("add(4) then", x.add(4), 3);
        SelfEndingCodes most = Samples.withNumbers(100, 9);
        Samples.pushText(most, zeros(100));
        takesAll(most, 0, 0, 100, times(100, 1), 100);
        CHECKS.due("add(4) then", most.add(4), -1);
    }

    /** "IllegalArgumentException: there is no such kind, or parameter." */
    private static void takeAllWithoutSuchACode() {
        for (int[] code : Samples.NO_CODES) {
            String what = Samples.call("takeAll", code[0], code[1]);
            CHECKS.illegalAndKeeps(what, Samples::busy, x -> x.takeAll(code[0], code[1]));
            CHECKS.illegalAndKeeps(what + " of a new one", SelfEndingCodes::new, x -> x.takeAll(code[0], code[1]));
            CHECKS.illegalAndKeeps(what + " of a full one", Samples::full, x -> x.takeAll(code[0], code[1]));
        }
    }
}
