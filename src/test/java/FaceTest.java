import java.lang.reflect.Constructor;
import java.lang.reflect.Field;
import java.lang.reflect.Method;
import java.lang.reflect.Modifier;
import java.nio.file.Files;
import java.nio.file.Path;
import java.util.TreeSet;

/** The face is the document's, no more and no less; the source keeps to what LANGUAGE.md leaves. */
public final class FaceTest {
    private static final Check CHECK = new Check("FaceTest");
    private static final String[] METHODS = {
        "put(int, boolean, long, int) void", "apply(int, int, int, int) void",
        "compare(int, int) int", "kind(int) int", "coefficient(int) long", "exponent(int) int",
        "pack(int, int) long", "unpack(int, int, long) void", "mode(int) void", "trap(int) void",
        "flags() int", "lower() void", "sum(int, int, int) int"
    };
    private static final String[] LEFT_OUT = {
        "import ", "package ", "->", "::", "synchronized", "assert", "finally", "Exact(", "System.out",
        "catch", "equals", "hashCode", "toString", "static {", "protected", "Math.floor(", "float",
        "double", "\" +", "+ \"", "Thread", "Random", "nanoTime", "currentTime", "new int[", "new long["
    };

    public static void main(String[] args) throws Exception {
        face();
        hidden();
        source(Files.readString(Path.of(args[0])));
        CHECK.end();
    }

    private static void face() {
        Class<?> type = DecimalWords.class;
        CHECK.due("public and final", type.getModifiers(), Modifier.PUBLIC | Modifier.FINAL);
        Constructor<?>[] makers = type.getDeclaredConstructors();
        CHECK.due("constructors", makers.length, 1);
        CHECK.due("its arguments", makers[0].getParameterCount(), 0);
        CHECK.due("it is public", makers[0].getModifiers(), Modifier.PUBLIC);
        TreeSet<String> due = new TreeSet<>();
        for (String method : METHODS) {
            due.add(method);
        }
        TreeSet<String> got = new TreeSet<>();
        for (Method method : type.getDeclaredMethods()) {
            if (!Modifier.isPrivate(method.getModifiers()) && !method.isSynthetic()) {
                got.add(signature(method));
                CHECK.due(method + " modifiers", method.getModifiers(), Modifier.PUBLIC);
            }
        }
        CHECK.dueText("methods", got.toString(), due.toString());
    }

    private static String signature(Method method) {
        StringBuilder text = new StringBuilder(method.getName()).append('(');
        for (Class<?> type : method.getParameterTypes()) {
            text.append(text.charAt(text.length() - 1) == '(' ? "" : ", ").append(type.getName());
        }
        return text.append(") ").append(method.getReturnType().getName()).toString();
    }

    private static void hidden() {
        TreeSet<String> faceNames = new TreeSet<>();
        for (String method : METHODS) {
            faceNames.add(method.substring(0, method.indexOf('(')));
        }
        for (Field field : DecimalWords.class.getDeclaredFields()) {
            CHECK.due(field + " is private", field.getModifiers() & Modifier.PRIVATE, Modifier.PRIVATE);
        }
        for (Method method : DecimalWords.class.getDeclaredMethods()) {
            boolean twice = Modifier.isPrivate(method.getModifiers())
                    && faceNames.contains(method.getName());
            CHECK.due(method + " has a name of the face", twice ? 1 : 0, 0);
            CHECK.due(method + " has at most 7 parameters", Math.max(7, method.getParameterCount()), 7);
        }
        for (Class<?> inside : DecimalWords.class.getDeclaredClasses()) {
            CHECK.due(inside + " is static", inside.getModifiers() & Modifier.STATIC, Modifier.STATIC);
            for (Method method : inside.getDeclaredMethods()) {
                CHECK.due(method + " has a name of the face",
                        faceNames.contains(method.getName()) ? 1 : 0, 0);
            }
        }
    }

    private static void source(String text) {
        for (String word : LEFT_OUT) {
            CHECK.due("'" + word + "' in the source at", text.indexOf(word), -1);
        }
        for (int i = 0; i < text.length(); i++) {
            char sign = text.charAt(i);
            if (sign > 126 || sign < 32 && sign != '\n') {
                CHECK.due("a sign of the source", sign, ' ');
            }
        }
    }
}
