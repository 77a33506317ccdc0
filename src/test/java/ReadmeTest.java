import java.io.IOException;
import java.lang.reflect.InvocationTargetException;
import java.lang.reflect.Method;
import java.lang.reflect.Modifier;
import java.nio.file.Files;
import java.nio.file.Path;
import java.util.ArrayList;
import java.util.List;
import java.util.Map;
import java.util.TreeMap;
import java.util.TreeSet;
import java.util.regex.Matcher;
import java.util.regex.Pattern;
import java.util.stream.Stream;

/** What README.md says of using the class and of running its tests is so. */
public final class ReadmeTest {
    private static final Path README = Path.of("README.md");
    private static final Path TESTS = Path.of("src/test/java");
    private static final String MADE = "SelfEndingCodes codes = new SelfEndingCodes();";
    private static final Pattern CALL = Pattern.compile("codes\\.(\\w+)\\(([^()]*)\\); +// ([^:]*)(:.*)?");
    private static final Pattern KIND = Pattern.compile(
        "\\| (\\d) \\| (\\d+)(?: to (\\d+))? \\| [^|]* \\| `([01]+)`(?: with (\\d+))? \\|");
    private static final Pattern TEST_NAME = Pattern.compile("`(\\w+Test)`");
    private static final Pattern TEST_ALONE = Pattern.compile("java -cp build/own (\\w+)");
    private static final int KINDS = 8;
    private static final int MOST_CALLS = 512;

    private final Checks checks = new Checks();
    private final List<String> lines;
    private final Map<String, Method> methods = new TreeMap<>();

    private ReadmeTest(List<String> lines) {
        this.lines = lines;
        for (Method method : SelfEndingCodes.class.getDeclaredMethods()) {
            if (Modifier.isPublic(method.getModifiers())) {
                methods.put(method.getName(), method);
            }
        }
    }

    public static void main(String[] args) throws IOException {
        ReadmeTest test = new ReadmeTest(Files.readAllLines(README));
        test.callsAnswerWhatStandsBehindThem();
        test.kindsAreThoseOfTheTable();
        test.lastGroupOfSeveralIsNotZero();
        test.bitsInFrontOfTheRowAreZero();
        test.putAllEndsAtTheFirstWithoutRoom();
        test.takeAllOfNothingEmptiesTheList();
        test.testsAreThoseThatAreNamed();
        test.checks.end();
    }

    // ---- the calls

    private void callsAnswerWhatStandsBehindThem() {
        SelfEndingCodes codes = new SelfEndingCodes();
        TreeSet<String> shown = new TreeSet<>();
        int calls = 0;
        for (String line : javaLines()) {
            Matcher call = CALL.matcher(line);
            if (call.matches() && methods.containsKey(call.group(1))) {
                Method method = methods.get(call.group(1));
                checks.due(line, answer(codes, method, call.group(2)), told(call.group(3)));
                shown.add(method.getName());
                calls++;
            } else {
                boolean noCall = line.isEmpty() || line.startsWith("// ") || line.equals(MADE);
                checks.due("'" + line + "' can be read", noCall, true);
            }
        }
        checks.due("methods that are shown", shown, new TreeSet<>(methods.keySet()));
        checks.due("calls are not too many for one object", calls <= MOST_CALLS, true);
    }

    private List<String> javaLines() {
        int from = lines.indexOf("```java") + 1;
        int length = lines.subList(from, lines.size()).indexOf("```");
        return lines.subList(from, from + length);
    }

    private static String answer(SelfEndingCodes codes, Method method, String arguments) {
        try {
            return String.valueOf(method.invoke(codes, values(method, arguments)));
        } catch (InvocationTargetException e) {
            return "throws " + e.getCause().getClass().getSimpleName();
        } catch (IllegalAccessException | IllegalArgumentException e) {
            return "no such call: " + e;
        }
    }

    private static Object[] values(Method method, String arguments) {
        List<Object> values = new ArrayList<>();
        for (String text : arguments.isEmpty() ? new String[0] : arguments.split(", ")) {
            boolean wide = values.size() < method.getParameterCount()
                && method.getParameterTypes()[values.size()] == long.class;
            if (wide) {
                values.add(number(text));
            } else {
                values.add(Integer.valueOf(text));
            }
        }
        return values.toArray();
    }

    private static Long number(String text) {
        if (text.matches("0x[0-9A-F]{1,16}L")) {
            return Long.parseUnsignedLong(text.substring(2, text.length() - 1), 16);
        }
        return Long.valueOf(text);
    }

    private static String told(String comment) {
        if (comment.equals("NONE")) {
            return "-1";
        }
        if (comment.equals("no answer")) {
            return "null";
        }
        return comment.startsWith("throws ") ? comment : number(comment).toString();
    }

    // ---- the table of kinds

    private void kindsAreThoseOfTheTable() {
        int rows = 0;
        for (String line : lines) {
            Matcher row = KIND.matcher(line);
            if (row.matches()) {
                checks.due("kind of row " + rows, Integer.parseInt(row.group(1)), rows);
                int least = Integer.parseInt(row.group(2));
                int greatest = row.group(3) == null ? least : Integer.parseInt(row.group(3));
                parametersAre(rows, least, greatest);
                fiveIs(rows, row.group(5) == null ? least : Integer.parseInt(row.group(5)), row.group(4));
                rows++;
            }
        }
        checks.due("kinds in the table", rows, KINDS);
    }

    private void parametersAre(int kind, int least, int greatest) {
        SelfEndingCodes x = new SelfEndingCodes();
        checks.due("kind " + kind + " with " + least, x.total(kind, least), 0);
        checks.due("kind " + kind + " with " + greatest, x.total(kind, greatest), 0);
        checks.illegal("kind " + kind + " with " + (least - 1), () -> x.total(kind, least - 1));
        checks.illegal("kind " + kind + " with " + (greatest + 1), () -> x.total(kind, greatest + 1));
    }

    private void fiveIs(int kind, int p, String codeword) {
        SelfEndingCodes x = new SelfEndingCodes();
        x.put(kind, p, 5);
        checks.due("5 by kind " + kind + " with " + p, Samples.rowText(x), codeword);
    }

    // ---- the readings that are told below the table

    private void lastGroupOfSeveralIsNotZero() {
        checks.noneAndKeeps("take of 1000", () -> Samples.withRow("1000"), x -> x.take(7, 1));
        SelfEndingCodes x = Samples.withRow("011001" + "1000" + "01");
        checks.due("takeAll of 01 1001 1000 01", x.takeAll(7, 1), 2);
        checks.due("its place", x.place(), 6);
        checks.due("rows of 4 that begin with 00, 01, 1001 or 1101", x.begun(7, 1, 4), 10);
    }

    private void bitsInFrontOfTheRowAreZero() {
        SelfEndingCodes x = Samples.withRow("101");
        checks.due("bits(-1)", x.bits(-1), 0x5000000000000000L);
        checks.due("bits(-63)", x.bits(-63), 1);
        checks.due("bits(-64)", x.bits(-64), 0);
        checks.due("bits(least int)", x.bits(Integer.MIN_VALUE), 0);
        checks.due("bits(greatest int)", x.bits(Integer.MAX_VALUE), 0);
    }

    private void putAllEndsAtTheFirstWithoutRoom() {
        SelfEndingCodes x = Samples.withList(3, 5000, 1);
        checks.due("putAll of 3, 5000, 1", x.putAll(0, 0), 1);
        checks.due("its row", Samples.rowText(x), "110");
    }

    private void takeAllOfNothingEmptiesTheList() {
        SelfEndingCodes x = Samples.withList(3, 5000, 1);
        checks.due("takeAll of an empty row", x.takeAll(0, 0), 0);
        checks.due("its list", Samples.listText(x), "");
        checks.due("how many that are", x.clear(), 0);
    }

    // ---- the tests

    private void testsAreThoseThatAreNamed() throws IOException {
        TreeSet<String> named = new TreeSet<>();
        int alone = 0;
        for (String line : lines) {
            Matcher name = TEST_NAME.matcher(line);
            while (name.find()) {
                named.add(name.group(1));
            }
            Matcher call = TEST_ALONE.matcher(line);
            if (call.matches()) {
                checks.due(line + ": there is such a test", tests().contains(call.group(1)), true);
                alone++;
            }
        }
        checks.due("tests that are named", named, tests());
        checks.due("calls of one test alone", alone, 1);
        checks.due(".ci/run is named", lines.contains(".ci/run"), true);
        checks.due(".ci/run can be run", Files.isExecutable(Path.of(".ci/run")), true);
    }

    private static TreeSet<String> tests() throws IOException {
        TreeSet<String> names = new TreeSet<>();
        try (Stream<Path> files = Files.list(TESTS)) {
            for (Path file : files.toList()) {
                String name = file.getFileName().toString();
                if (name.endsWith("Test.java")) {
                    names.add(name.substring(0, name.length() - ".java".length()));
                }
            }
        }
        return names;
    }
}
