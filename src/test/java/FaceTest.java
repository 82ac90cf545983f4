import java.io.IOException;
import java.lang.reflect.Field;
import java.lang.reflect.Method;
import java.lang.reflect.Modifier;
import java.nio.file.Files;
import java.nio.file.Path;
import java.util.Arrays;
import java.util.HashSet;
import java.util.Set;
import java.util.TreeSet;
import java.util.regex.Pattern;

/** The public face of the document, and the rules of LANGUAGE.md that can be seen from outside. */
public final class FaceTest {
    private static final Path SOURCE = Path.of("src/main/java/SpongeDesk.java");
    private static final String[] FACE = {
        "int feed(int, long) IllegalArgumentException",
        "int wipe()",
        "int let(int) IllegalArgumentException",
        "void begin(int, int) IndexOutOfBoundsException IllegalArgumentException",
        "int absorb(int) IndexOutOfBoundsException IllegalStateException",
        "int bytes(int, int, long) IndexOutOfBoundsException IllegalArgumentException IllegalStateException",
        "void end(int, int) IndexOutOfBoundsException IllegalArgumentException IllegalStateException",
        "long squeeze(int, int) IndexOutOfBoundsException IllegalArgumentException IllegalStateException",
        "int left(int) IndexOutOfBoundsException",
        "void copy(int, int) IndexOutOfBoundsException",
        "int kind(int) IndexOutOfBoundsException",
        "boolean same(int, int, int) IndexOutOfBoundsException IllegalArgumentException IllegalStateException",
    };
    private static final String[] OUTSIDE_THE_RULES = {
        "\\bfinally\\b", "\\bsynchronized\\b", "\\bassert\\b", "\\btry\\b", "->", "::", "Exact\\(",
        "\\bMath\\.random\\b", "\\bnanoTime\\b", "\\bcurrentTimeMillis\\b", "\\bpackage\\b", "static \\{",
    };

    public static void main(String[] args) throws IOException {
        members();
        names(SpongeDesk.class);
        insides();
        source();
        Check.close();
    }

    private static void members() {
        Check.yes("the class is public and final",
            Modifier.isPublic(SpongeDesk.class.getModifiers()) && Modifier.isFinal(SpongeDesk.class.getModifiers()));
        Check.same("constructors", SpongeDesk.class.getDeclaredConstructors().length, 1);
        Check.same("public constructor's parameters", SpongeDesk.class.getConstructors()[0].getParameterCount(), 0);
        Set<String> face = new TreeSet<>();
        for (Method method : SpongeDesk.class.getDeclaredMethods()) {
            if (!Modifier.isPrivate(method.getModifiers())) {
                face.add(told(method));
            }
        }
        Check.same("the methods", face, new TreeSet<>(Arrays.asList(FACE)));
        Set<String> constants = new TreeSet<>();
        for (Field field : SpongeDesk.class.getDeclaredFields()) {
            if (!Modifier.isPrivate(field.getModifiers())) {
                constants.add(Modifier.toString(field.getModifiers()) + " " + field.getType() + " " + field.getName());
            }
        }
        Check.same("the constants", constants, Set.of("public static final int NONE"));
    }

    private static String told(Method method) {
        StringBuilder text = new StringBuilder();
        text.append(method.getReturnType()).append(' ').append(method.getName()).append('(');
        for (int i = 0; i < method.getParameterCount(); i++) {
            text.append(i == 0 ? "" : ", ").append(method.getParameterTypes()[i]);
        }
        text.append(')');
        for (Class<?> thrown : method.getExceptionTypes()) {
            text.append(' ').append(thrown.getSimpleName());
        }
        return text.toString();
    }

    private static void names(Class<?> type) {
        Set<String> open = new HashSet<>();
        for (Method method : SpongeDesk.class.getMethods()) {
            open.add(method.getName());
        }
        for (Method method : type.getDeclaredMethods()) {
            if (!Modifier.isPublic(method.getModifiers())) {
                Check.no("a method inside bears a public name: " + method, open.contains(method.getName()));
            }
            Check.yes("seven parameters at most: " + method, method.getParameterCount() <= 7);
        }
    }

    private static void insides() {
        Class<?>[] insides = SpongeDesk.class.getDeclaredClasses();
        Check.yes("twelve classes at most", insides.length <= 12);
        for (Class<?> inside : insides) {
            Check.yes("static: " + inside, Modifier.isStatic(inside.getModifiers()));
            Check.no("not public: " + inside, Modifier.isPublic(inside.getModifiers()));
            names(inside);
            statics(inside);
        }
        statics(SpongeDesk.class);
    }

    private static void statics(Class<?> type) {
        for (Field field : type.getDeclaredFields()) {
            if (Modifier.isStatic(field.getModifiers())) {
                Check.yes("final: " + field, Modifier.isFinal(field.getModifiers()));
            }
        }
    }

    private static void source() throws IOException {
        String text = Files.readString(SOURCE);
        for (String line : text.split("\n")) {
            if (line.startsWith("import ")) {
                Check.same("the library", line, "import java.util.Arrays;");
            }
        }
        for (String pattern : OUTSIDE_THE_RULES) {
            Check.no("outside the rules: " + pattern, Pattern.compile(pattern).matcher(text).find());
        }
    }
}
