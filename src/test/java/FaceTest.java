import java.lang.reflect.Constructor;
import java.lang.reflect.Field;
import java.lang.reflect.Method;
import java.lang.reflect.Modifier;
import java.util.ArrayList;
import java.util.Arrays;
import java.util.List;
import java.util.TreeSet;

/** The class shows the document's face, and nothing more of itself than that. */
public final class FaceTest {
    private static final String[] FACE = {
        "public long length(int, int, long) throws IllegalArgumentException",
        "public int put(int, int, long) throws IllegalArgumentException",
        "public long take(int, int) throws IllegalArgumentException",
        "public int push(long, int) throws IllegalArgumentException",
        "public long bits(int)",
        "public int size()",
        "public int place()",
        "public void seek(int) throws IndexOutOfBoundsException",
        "public int wipe()",
        "public int add(long) throws IllegalArgumentException",
        "public long get(int) throws IndexOutOfBoundsException",
        "public int clear()",
        "public long total(int, int) throws IllegalArgumentException",
        "public int best(int, int) throws IllegalArgumentException",
        "public int putAll(int, int) throws IllegalArgumentException",
        "public int takeAll(int, int) throws IllegalArgumentException",
        "public long count(int, int, int) throws IllegalArgumentException",
        "public long first(int, int, int) throws IllegalArgumentException",
        "public long begun(int, int, int) throws IllegalArgumentException",
        "public long fold(long) throws IllegalArgumentException",
        "public long unfold(long) throws IllegalArgumentException",
    };

    public static void main(String[] args) {
        Checks checks = new Checks();
        Class<?> face = SelfEndingCodes.class;
        checks.due("the class", Modifier.toString(face.getModifiers()), "public final");
        checks.due("methods that are not private", new TreeSet<>(openMethods(face)), new TreeSet<>(Arrays.asList(FACE)));
        for (Constructor<?> made : face.getDeclaredConstructors()) {
            checks.due("constructor", made.toString(), "public SelfEndingCodes()");
        }
        for (Field field : face.getDeclaredFields()) {
            boolean constant = field.toString().equals("public static final int SelfEndingCodes.NONE");
            checks.due(field.getName(), constant || Modifier.isPrivate(field.getModifiers()), true);
            checks.due(field.getName() + " if static is final",
                !Modifier.isStatic(field.getModifiers()) || Modifier.isFinal(field.getModifiers()), true);
        }
        TreeSet<String> names = publicNames(face);
        for (Class<?> inside : face.getDeclaredClasses()) {
            checks.due(inside.getName() + " is static", Modifier.isStatic(inside.getModifiers()), true);
            checks.due(inside.getName() + " is not public", Modifier.isPublic(inside.getModifiers()), false);
            namesDiffer(checks, inside, names);
        }
        namesDiffer(checks, face, names);
        checks.end();
    }

    private static List<String> openMethods(Class<?> face) {
        List<String> told = new ArrayList<>();
        for (Method method : face.getDeclaredMethods()) {
            if (!Modifier.isPrivate(method.getModifiers())) {
                told.add(method.toString().replace("SelfEndingCodes.", "").replace("java.lang.", "").replace(",", ", "));
            }
        }
        return told;
    }

    private static TreeSet<String> publicNames(Class<?> face) {
        TreeSet<String> names = new TreeSet<>();
        for (Method method : face.getDeclaredMethods()) {
            if (Modifier.isPublic(method.getModifiers())) {
                names.add(method.getName());
            }
        }
        return names;
    }

    private static void namesDiffer(Checks checks, Class<?> type, TreeSet<String> names) {
        for (Method method : type.getDeclaredMethods()) {
            if (!Modifier.isPublic(method.getModifiers())) {
                checks.due(method.getName() + " bears a public name", names.contains(method.getName()), false);
            }
        }
    }
}
