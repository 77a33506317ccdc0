import java.util.Random;

/** Runs of calls on fresh objects, with the model beside them; always the same runs. */
public final class RunsTest {
    private static final long TOP = Model.GREATEST;
    private static final int RUNS = 4000;
    // With the looks at the end, up to 168, this stays below the 512 calls that an object is for.
    private static final int MOST_CALLS = 340;
    private static final String[] NAMES = {
        "put", "put", "put", "take", "take", "take", "take", "push", "push", "bits", "seek", "seek", "wipe", "add", "add",
        "get", "clear", "total", "best", "putAll", "takeAll", "count", "first", "begun", "fold", "unfold", "length",
    };

    private final Checks checks = new Checks();
    private final Random random;
    private SelfEndingCodes program;
    private Model model;
    /** In some runs one kind stays, so that what is read is mostly what was written. */
    private int kind;
    private int p;
    private boolean mixed;
    private boolean wipes;

    private RunsTest(long seed) {
        random = new Random(seed);
    }

    public static void main(String[] args) {
        RunsTest test = new RunsTest(20261115L);
        for (int run = 0; run < RUNS; run++) {
            test.run(run);
        }
        test.checks.end();
    }

    private void run(int run) {
        program = new SelfEndingCodes();
        model = new Model();
        mixed = run % 3 == 0;
        wipes = run % 2 == 0;
        chooseCode(0);
        // The shorter a run, the fewer calls its state at the end can have gone wrong by.
        int calls = 1 + random.nextInt(run % 4 == 0 ? 20 : MOST_CALLS);
        for (int i = 0; i < calls; i++) {
            if (mixed) {
                chooseCode(12);
            }
            String name = NAMES[random.nextInt(NAMES.length)];
            compare("run " + run + " call " + i + " ", name);
        }
        compareState("run " + run + " after " + calls + " calls");
    }

    private void chooseCode(int oneWrongOf) {
        kind = random.nextInt(8);
        boolean small = random.nextBoolean();
        p = kind == 5 ? 1 + random.nextInt(small ? 20 : 1000000)
            : kind == 6 ? random.nextInt(small ? 5 : 41)
            : kind == 7 ? 1 + random.nextInt(16)
            : 0;
        if (oneWrongOf > 0 && random.nextInt(oneWrongOf) == 0) {
            kind = random.nextInt(12) - 2;
            p = random.nextInt(60) - 10;
        }
    }

    private long number() {
        switch (random.nextInt(12)) {
            case 0: return TOP - random.nextInt(4);
            case 1: return (random.nextLong() & (TOP - 1)) + 1;
            case 2: case 3: return 1 + (random.nextLong() >>> (2 + random.nextInt(61)));
            case 4: return random.nextInt(20) == 0 ? TOP + 1 + random.nextInt(3) : 1 + random.nextInt(5000);
            case 5: return random.nextInt(10) == 0 ? -random.nextInt(3) : 1 + random.nextInt(500);
            default: return 1 + random.nextInt(40);
        }
    }

    private long pattern() {
        switch (random.nextInt(4)) {
            case 0: return random.nextLong();
            case 1: return random.nextLong() & random.nextLong() & random.nextLong() & random.nextLong();
            case 2: return random.nextLong() | random.nextLong() | random.nextLong();
            default: return random.nextBoolean() ? 0 : -1L;
        }
    }

    private void same(String what, Checks.Call got, Checks.Call want) {
        checks.due(what, Checks.outcome(got), Checks.outcome(want));
    }

    private void compare(String where, String name) {
        int k = kind;
        int q = p;
        String what = where + name + " kind " + k + " p " + q;
        long n = number();
        switch (name) {
            case "put":
                same(what + " n " + n, () -> program.put(k, q, n), () -> model.put(k, q, n));
                break;
            case "take":
                same(what, () -> program.take(k, q), () -> model.take(k, q));
                break;
            case "length":
                same(what + " n " + n, () -> program.length(k, q, n), () -> model.lengthCall(k, q, n));
                break;
            case "total":
                same(what, () -> program.total(k, q), () -> model.total(k, q));
                break;
            case "best":
                int most = k == 5 ? random.nextInt(60) : q;
                same(what + " most " + most, () -> program.best(k, most), () -> model.best(k, most));
                break;
            case "putAll":
                same(what, () -> program.putAll(k, q), () -> model.putAll(k, q));
                break;
            case "takeAll":
                same(what, () -> program.takeAll(k, q), () -> model.takeAll(k, q));
                break;
            case "count": case "first": case "begun":
                compareLengths(what, name);
                break;
            default:
                compareWithoutKind(where + name, name, n);
                break;
        }
    }

    private void compareLengths(String what, String name) {
        int k = kind;
        int q = p;
        int length = random.nextInt(random.nextBoolean() ? 70 : 210) - 2;
        String told = what + " length " + length;
        if (name.equals("count")) {
            same(told, () -> program.count(k, q, length), () -> model.count(k, q, length));
        } else if (name.equals("first")) {
            same(told, () -> program.first(k, q, length), () -> model.first(k, q, length));
        } else {
            same(told, () -> program.begun(k, q, length), () -> model.begun(k, q, length));
        }
    }

    private void compareWithoutKind(String what, String name, long n) {
        int i = random.nextInt(model.row.length() + 70) - 66;
        switch (name) {
            case "push":
                long v = pattern();
                int width = random.nextInt(67) - 1;
                same(what + " " + v + " " + width, () -> program.push(v, width), () -> model.push(v, width));
                break;
            case "bits":
                same(what + " " + i, () -> program.bits(i), () -> model.bits(i));
                break;
            case "seek":
                int to = i < -5 ? 0 : i;
                same(what + " " + to, () -> {
                    program.seek(to);
                    return 0;
                }, () -> model.seek(to));
                break;
            case "wipe":
                if (wipes && random.nextInt(4) == 0) {
                    same(what, () -> program.wipe(), () -> model.wipe());
                }
                break;
            case "add":
                same(what + " " + n, () -> program.add(n), () -> model.add(n));
                break;
            case "get":
                int at = random.nextInt(model.list.size() + 3) - 1;
                same(what + " " + at, () -> program.get(at), () -> model.get(at));
                break;
            case "clear":
                if (random.nextInt(6) == 0) {
                    same(what, () -> program.clear(), () -> model.clear());
                }
                break;
            case "fold":
                long signed = random.nextBoolean() ? n : -n / (1 + random.nextInt(3));
                same(what + " " + signed, () -> program.fold(signed), () -> model.fold(signed));
                break;
            default:
                same(what + " " + n, () -> program.unfold(n), () -> model.unfold(n));
                break;
        }
    }

    /** Looks at all that the object shows; these looks change nothing. */
    private void compareState(String where) {
        checks.due(where + " size()", program.size(), model.row.length());
        checks.due(where + " place()", program.place(), model.place);
        for (int i = 0; i < 4096 + 64; i += 64) {
            if (i > model.row.length() + 64) {
                break;
            }
            checks.due(where + " bits(" + i + ")", program.bits(i), model.bits(i));
        }
        for (int i = 0; i <= model.list.size(); i++) {
            int at = i;
            same(where + " get(" + i + ")", () -> program.get(at), () -> model.get(at));
        }
    }
}
