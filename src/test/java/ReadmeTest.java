import java.io.ByteArrayOutputStream;
import java.io.IOException;
import java.io.PrintStream;
import java.lang.reflect.InvocationTargetException;
import java.net.URL;
import java.net.URLClassLoader;
import java.nio.file.Files;
import java.nio.file.Path;
import java.util.ArrayList;
import java.util.Arrays;
import java.util.List;
import java.util.Set;
import java.util.TreeSet;
import java.util.regex.Matcher;
import java.util.regex.Pattern;
import java.util.stream.Stream;
import javax.tools.ToolProvider;

/** That README.md tells what is so: its example, the methods, the kinds, and the tests. */
public final class ReadmeTest {
    private static final String[] ROWS = {"name", "custom", "key"};

    private static String text;

    public static void main(String[] args) throws IOException {
        text = Files.readString(Path.of("README.md"));
        Check.edge("README: the example prints what stands behind each line", ReadmeTest::example);
        Check.edge("README: the methods of the face, and what they throw, in order", ReadmeTest::methods);
        Check.edge("README: the kinds, each once", ReadmeTest::eachKind);
        Check.edge("README: the kinds that bytes come into", () -> ofEachKind(ReadmeTest::bytesOf));
        Check.edge("README: the lengths that the kinds end with", () -> ofEachKind(ReadmeTest::lengthsOf));
        Check.edge("README: how many bytes come out of the kinds", () -> ofEachKind(ReadmeTest::leftOf));
        Check.edge("README: what the kinds begin with", () -> ofEachKind(ReadmeTest::firstOf));
        Check.edge("README: the tests, and how to run them", ReadmeTest::tests);
        Check.close();
    }

    /** A row of the table of kinds. */
    private static final class KindRow {
        final int kind;
        final String first;
        final String bytes;
        final String length;
        final String out;

        KindRow(int kind, String[] cells) {
            this.kind = kind;
            first = cells[2];
            bytes = cells[3];
            length = cells[4];
            out = cells[5];
        }
    }

    private interface Look {
        void at(KindRow row);
    }

    private static void example() {
        String code = text.split("```java\n")[1].split("```")[0];
        StringBuilder due = new StringBuilder();
        Matcher printed = Pattern.compile("println\\(.*\\); // (.*)\n").matcher(code);
        while (printed.find()) {
            due.append(printed.group(1)).append('\n');
        }
        Check.no("nothing is printed", due.length() == 0);
        try {
            Check.same("the example", printedBy(code), due.toString());
        } catch (IOException | ReflectiveOperationException stopped) {
            Check.same("the example", stopped.toString(), "runs");
        }
    }

    private static String printedBy(String code) throws IOException, ReflectiveOperationException {
        Path room = Files.createTempDirectory("readme");
        Path file = room.resolve("Example.java");
        Path made = room.resolve("Example.class");
        try {
            Files.writeString(file, "public class Example { public static void main(String[] a) {\n" + code + "} }\n");
            int faults = ToolProvider.getSystemJavaCompiler().run(null, null, null, "-d", room.toString(),
                "-cp", System.getProperty("java.class.path"), file.toString());
            Check.same("the example compiles", faults, 0);
            return printedByMain(room);
        } finally {
            Files.deleteIfExists(file);
            Files.deleteIfExists(made);
            Files.deleteIfExists(room);
        }
    }

    private static String printedByMain(Path room) throws IOException, ReflectiveOperationException {
        PrintStream usual = System.out;
        ByteArrayOutputStream printed = new ByteArrayOutputStream();
        try (URLClassLoader loader = new URLClassLoader(new URL[] {room.toUri().toURL()})) {
            System.setOut(new PrintStream(printed, true));
            loader.loadClass("Example").getMethod("main", String[].class).invoke(null, (Object) new String[0]);
        } catch (InvocationTargetException stopped) {
            return stopped.getCause().toString();
        } finally {
            System.setOut(usual);
        }
        return printed.toString().replace("\r", "");
    }

    private static void methods() {
        List<String> told = new ArrayList<>();
        String items = section("### The methods").replace("\n  ", " ");
        Matcher item = Pattern.compile("(?m)^- `(\\w+ \\w+\\(.*?\\))`(.*)$").matcher(items);
        while (item.find()) {
            StringBuilder method = new StringBuilder(item.group(1).replaceAll("(int|long) \\w+([,)])", "$1$2"));
            Matcher thrown = Pattern.compile("`(\\w+Exception)`: ").matcher(item.group(2));
            while (thrown.find()) {
                method.append(' ').append(thrown.group(1));
            }
            told.add(method.toString());
        }
        Check.same("the methods", told, Arrays.asList(FaceTest.FACE));
    }

    private static void eachKind() {
        List<Integer> kinds = new ArrayList<>();
        ofEachKind(row -> kinds.add(row.kind));
        Check.same("the kinds", kinds.toString(), "[0, 1, 2, 3, 4, 5, 6, 7, 8, 9, 10, 11, 12, 13, 14, 15]");
    }

    private static void bytesOf(KindRow row) {
        SpongeDesk desk = Edges.deskWith(row.kind);
        String due = row.bytes.equals("yes") ? "1" : row.bytes.equals("no") ? "throws.IllegalStateException" : "?";
        Check.same("bytes, kind " + row.kind, Check.answer(() -> desk.bytes(0, 1, 0)), due);
    }

    private static void lengthsOf(KindRow row) {
        for (int length = -1; length <= 1002; length++) {
            int told = length;
            SpongeDesk desk = Edges.deskWith(row.kind);
            Check.same("end(0, " + length + "), kind " + row.kind, Check.answer(Check.done(() -> desk.end(0, told))),
                length >= shortest(row) && length <= longest(row) ? "done" : "throws.IllegalArgumentException");
        }
    }

    private static void leftOf(KindRow row) {
        for (int length : new int[] {shortest(row), longest(row)}) {
            String due = row.out.equals("any number") ? "-1" : row.out.equals("the length") ? "" + length : row.out;
            Check.same("left, kind " + row.kind, "" + Edges.deskEnded(row.kind, length).left(0), due);
        }
    }

    private static void firstOf(KindRow row) {
        String without = Edges.madeOfTape(new SpongeDesk(), row.kind);
        for (int which = 0; which < ROWS.length; which++) {
            SpongeDesk desk = new SpongeDesk();
            Rows.let(desk, which, Rows.of("row"));
            boolean another = !Edges.madeOfTape(desk, row.kind).equals(without);
            Check.same("the " + ROWS[which] + ", kind " + row.kind, another, row.first.contains(ROWS[which]));
        }
    }

    private static int shortest(KindRow row) {
        return Integer.parseInt(row.length.split(" to ")[0]);
    }

    private static int longest(KindRow row) {
        String[] ends = row.length.split(" to ");
        return Integer.parseInt(ends[ends.length - 1]);
    }

    private static void ofEachKind(Look look) {
        Matcher line = Pattern.compile("(?m)^\\| ([0-9].*)\\|$").matcher(section("### The kinds"));
        while (line.find()) {
            String[] cells = line.group(1).trim().split(" *\\| *");
            for (String kind : cells[0].split(", ")) {
                look.at(new KindRow(Integer.parseInt(kind), cells));
            }
        }
    }

    private static void tests() {
        String told = section("## How to run the tests");
        Check.yes("how to run them", told.contains("\n.ci/run\n"));
        Set<String> named = new TreeSet<>();
        Matcher name = Pattern.compile("`(\\w+Test)`").matcher(told);
        while (name.find()) {
            named.add(name.group(1));
        }
        Set<String> due = new TreeSet<>();
        try (Stream<Path> files = Files.list(Path.of("src/test/java"))) {
            files.map(file -> file.getFileName().toString()).filter(file -> file.endsWith("Test.java"))
                .forEach(file -> due.add(file.replace(".java", "")));
        } catch (IOException stopped) {
            Check.same("the tests", stopped.toString(), "listed");
        }
        Check.same("the tests", named, due);
    }

    /** What stands between a heading and the next one. */
    private static String section(String heading) {
        return text.split("\n" + heading + "\n")[1].split("\n##")[0];
    }
}
