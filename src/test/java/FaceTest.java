import java.io.IOException;
import java.lang.reflect.Constructor;
import java.lang.reflect.Field;
import java.lang.reflect.Method;
import java.lang.reflect.Modifier;
import java.nio.file.Files;
import java.nio.file.Path;
import java.util.Set;
import java.util.TreeSet;
import java.util.regex.Pattern;

/** The face of the class is that of the document, and its source keeps to what LANGUAGE.md leaves. */
public final class FaceTest {
    private static final String[] FACE = {
        "public int concat(int, int)", "public int digit(int, int, boolean)", "public int high(int, int)",
        "public int insert(int, int, int)", "public int length(int)", "public int low(int, int)",
        "public int made()", "public long measure(int, int)", "public int meeting(int, int, int, int)",
        "public int popBack(int)", "public int popFront(int)", "public int pushBack(int, int, int)",
        "public int pushFront(int, int, int)", "public int rank(int, int)", "public int removeTop(int)",
        "public int replace(int, int, int, int)", "public int search(int, int, long)",
        "public int shared(int, int)", "public int spine(int)", "public int split(int, int)",
        "public FingerSpans()", "public static final int BAD", "public static final int FULL",
    };

    private static final String[] LEFT_OUT = {
        "throw", "try", "catch", "synchronized", "assert", "import", "package", "protected", "static {",
        "->", "::", "hashCode", "toString", "Exact", "System", "Long.", "Integer.",
    };

    private static final Checks CHECKS = new Checks();

    public static void main(String[] args) throws IOException {
        CHECKS.due("the class's modifiers", Modifier.toString(FingerSpans.class.getModifiers()), "public final");
        Set<String> names = new TreeSet<>();
        Set<String> found = new TreeSet<>();
        for (Method method : FingerSpans.class.getDeclaredMethods()) {
            boolean open = !Modifier.isPrivate(method.getModifiers());
            if (open && !method.isSynthetic()) {
                names.add(method.getName());
                found.add(head(method.getModifiers()) + method.getReturnType() + " " + method.getName()
                        + arguments(method.getParameterTypes()));
            }
        }
        for (Constructor<?> made : FingerSpans.class.getDeclaredConstructors()) {
            found.add(head(made.getModifiers()) + "FingerSpans" + arguments(made.getParameterTypes()));
        }
        for (Field field : FingerSpans.class.getDeclaredFields()) {
            if (!Modifier.isPrivate(field.getModifiers())) {
                found.add(head(field.getModifiers()) + field.getType() + " " + field.getName());
            }
        }
        CHECKS.due("the face", found.toString(), new TreeSet<>(Set.of(FACE)).toString());
        noPrivateNamesake(FingerSpans.class, names);
        for (Class<?> inside : FingerSpans.class.getDeclaredClasses()) {
            CHECKS.due(inside + " is static", Modifier.isStatic(inside.getModifiers()) ? 1 : 0, 1);
            noPrivateNamesake(inside, names);
        }
        source();
        CHECKS.finish();
    }

    private static String head(int modifiers) {
        return modifiers == 0 ? "" : Modifier.toString(modifiers) + " ";
    }

    private static String arguments(Class<?>[] types) {
        StringBuilder text = new StringBuilder("(");
        for (Class<?> type : types) {
            text.append(text.length() == 1 ? "" : ", ").append(type);
        }
        return text.append(")").toString();
    }

    private static void noPrivateNamesake(Class<?> inside, Set<String> names) {
        for (Method method : inside.getDeclaredMethods()) {
            if (Modifier.isPrivate(method.getModifiers())) {
                CHECKS.due(inside + " has a private " + method.getName(), names.contains(method.getName()) ? 1 : 0, 0);
            }
        }
    }

    private static void source() throws IOException {
        String text = Files.readString(Path.of("src/main/java/FingerSpans.java"));
        String code = text.replaceAll("(?s)/\\*.*?\\*/", "").replaceAll("//[^\n]*", "");
        for (String word : LEFT_OUT) {
            String start = Character.isLetter(word.charAt(0)) ? "\\b" : "";
            boolean there = Pattern.compile(start + Pattern.quote(word)).matcher(code).find();
            CHECKS.due("'" + word + "' in the source", there ? 1 : 0, 0);
        }
    }
}
