/** Codes, numbers and objects to try, and what an object shows of itself as a text. */
final class Samples {
    /** Makes the same object each time, so that each of them is asked only a few calls. */
    interface Maker {
        SelfEndingCodes make();
    }

    static final long TOP = 4611686018427387904L;
    static final int[][] CODES = {
        {0, 0}, {1, 0}, {2, 0}, {3, 0}, {4, 0},
        {5, 1}, {5, 2}, {5, 3}, {5, 4}, {5, 5}, {5, 7}, {5, 10}, {5, 64}, {5, 1000}, {5, 999999}, {5, 1000000},
        {6, 0}, {6, 1}, {6, 2}, {6, 5}, {6, 31}, {6, 32}, {6, 39}, {6, 40},
        {7, 1}, {7, 2}, {7, 3}, {7, 4}, {7, 5}, {7, 7}, {7, 8}, {7, 15}, {7, 16},
    };
    static final int[][] NO_CODES = {
        {-1, 0}, {8, 0}, {8, 1}, {Integer.MIN_VALUE, 0}, {Integer.MAX_VALUE, 1},
        {0, 1}, {0, -1}, {1, 1}, {1, -1}, {2, 1}, {2, -1}, {3, 1}, {3, -1}, {4, 1}, {4, -1},
        {5, 0}, {5, -1}, {5, 1000001}, {5, Integer.MAX_VALUE}, {5, Integer.MIN_VALUE},
        {6, -1}, {6, 41}, {6, Integer.MIN_VALUE}, {7, 0}, {7, -1}, {7, 17}, {7, Integer.MAX_VALUE},
    };
    static final long[] NO_NUMBERS = {0, -1, TOP + 1, TOP + 2, Long.MAX_VALUE, Long.MIN_VALUE};

    private static final int ROOM = 4096;
    private static final int MOST_LISTED = 100;

    private Samples() {
    }

    // ---- objects

    static SelfEndingCodes withRow(String bits) {
        SelfEndingCodes x = new SelfEndingCodes();
        pushText(x, bits);
        return x;
    }

    static void pushText(SelfEndingCodes x, String bits) {
        for (int i = 0; i < bits.length(); i += 64) {
            String part = bits.substring(i, Math.min(i + 64, bits.length()));
            int size = x.push(Long.parseUnsignedLong(part, 2) << (64 - part.length()), part.length());
            if (size == SelfEndingCodes.NONE) {
                throw new IllegalStateException("a test wants more bits than a row has");
            }
        }
    }

    static SelfEndingCodes withList(long... numbers) {
        SelfEndingCodes x = new SelfEndingCodes();
        for (long n : numbers) {
            x.add(n);
        }
        return x;
    }

    static SelfEndingCodes withNumbers(int many, long n) {
        SelfEndingCodes x = new SelfEndingCodes();
        for (int i = 0; i < many; i++) {
            x.add(n);
        }
        return x;
    }

    static SelfEndingCodes filled(int bits) {
        return withRow("1".repeat(bits));
    }

    /** Something in the row, the place inside it, and something in the list. */
    static SelfEndingCodes busy() {
        SelfEndingCodes x = withList(7, 1, TOP);
        pushText(x, "0010111010011");
        x.seek(5);
        return x;
    }

    /** No room in the row, the place at its end, and no room in the list. */
    static SelfEndingCodes full() {
        SelfEndingCodes x = withNumbers(MOST_LISTED, 3);
        pushText(x, "1".repeat(ROOM));
        x.seek(ROOM);
        return x;
    }

    // ---- texts

    static String call(String name, Object... arguments) {
        StringBuilder text = new StringBuilder(name).append('(');
        for (int i = 0; i < arguments.length; i++) {
            text.append(i == 0 ? "" : ", ").append(arguments[i]);
        }
        return text.append(')').toString();
    }

    static String rowText(SelfEndingCodes x) {
        int size = x.size();
        StringBuilder text = new StringBuilder();
        for (int i = 0; i < size; i += 64) {
            String part = Long.toBinaryString(x.bits(i));
            text.append("0".repeat(64 - part.length())).append(part);
        }
        text.setLength(size);
        return text.toString();
    }

    static String listText(SelfEndingCodes x) {
        StringBuilder text = new StringBuilder();
        for (int i = 0; i <= MOST_LISTED; i++) {
            int at = i;
            String got = Checks.outcome(() -> x.get(at));
            if (got.startsWith("throws")) {
                break;
            }
            text.append(i == 0 ? "" : " ").append(got);
        }
        return text.toString();
    }

    /** Row, place and list; what stands behind the row's end, too, since it must be 0. */
    static String stateText(SelfEndingCodes x) {
        return "row " + rowText(x) + " then " + x.bits(x.size()) + ", place " + x.place() + ", list " + listText(x);
    }
}
