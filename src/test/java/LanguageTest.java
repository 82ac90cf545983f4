import java.io.IOException;
import java.lang.reflect.Field;
import java.lang.reflect.Modifier;
import java.util.ArrayList;
import java.util.List;
import java.util.Set;

import com.sun.source.tree.Tree;

/** The rules of LANGUAGE.md that can be read off the source, each by its number. */
public final class LanguageTest {
    /** What the rules leave out; try, which they leave in, the class has no need of. */
    private static final Set<Tree.Kind> LEFT_OUT = Set.of(
        Tree.Kind.LAMBDA_EXPRESSION, Tree.Kind.MEMBER_REFERENCE, Tree.Kind.SYNCHRONIZED, Tree.Kind.ASSERT,
        Tree.Kind.TRY, Tree.Kind.DOUBLE_LITERAL, Tree.Kind.FLOAT_LITERAL);
    private static final Set<String> LIBRARY = Set.of(
        "java.lang.System.arraycopy", "java.util.Arrays.copyOf", "java.util.Arrays.copyOfRange",
        "java.util.Arrays.fill");
    private static final Set<String> THROWN = Set.of(
        "IllegalStateException", "IllegalArgumentException", "IndexOutOfBoundsException", "ArithmeticException",
        "UnsupportedOperationException", "NoSuchElementException", "RuntimeException");
    private static final String TYPES =
        "(void|(int|long|short|byte|char|boolean)(\\[\\]){0,2}|String|StringBuilder|(Row|Sponge|Permutation)(\\[\\])?)";

    private static final int MOST_PARAMETERS = 7;
    private static final int MOST_LINES = 60;
    private static final int MOST_DEEP = 8;
    private static final int MOST_CLASSES = 12;
    private static final int MOST_FIELDS = 20;

    private static SourceReader source;

    public static void main(String[] args) throws IOException {
        source = SourceReader.of("src/main/java/SpongeDesk.java");
        Check.edge("One file: it compiles, without a package", LanguageTest::oneFile);
        Check.edge("Rules 1 and 2: static classes inside, and no local ones", LanguageTest::classesInside);
        Check.edge("Rules 2, 3 and 6: nothing that they leave out", LanguageTest::leftOut);
        Check.edge("Rule 3: the types", LanguageTest::types);
        Check.edge("Rules 4 and 13: the library", LanguageTest::library);
        Check.edge("Rule 5: static fields are written out, and final", LanguageTest::statics);
        Check.edge("Rule 5: static arrays are never changed", LanguageTest::staticsStay);
        Check.edge("Rule 6: what is thrown, and where", LanguageTest::thrown);
        Check.edge("Rule 9: no loop without an end", LanguageTest::loops);
        Check.edge("Rule 10: no texts joined by +", () -> Check.same("joined", source.joined, List.of()));
        Check.edge("Rules 8 and 11: no recursion, calls at most eight deep", LanguageTest::depth);
        Check.edge("Rule 11: sizes", LanguageTest::sizes);
        Check.edge("Rule 12: an object is made in a constructor, or to be thrown", LanguageTest::made);
        Check.close();
    }

    private static void oneFile() {
        Check.same("what the compiler says", source.faults, List.of());
        Check.no("a package", source.hasPackage);
    }

    private static void classesInside() {
        Check.same("local classes", source.localClasses, List.of());
        for (Class<?> inside : SpongeDesk.class.getDeclaredClasses()) {
            Check.yes("static: " + inside, Modifier.isStatic(inside.getModifiers()));
            Check.no("public: " + inside, Modifier.isPublic(inside.getModifiers()));
        }
    }

    private static void leftOut() {
        for (Tree.Kind kind : LEFT_OUT) {
            Check.no("there is a " + kind, source.kinds.contains(kind));
        }
    }

    private static void types() {
        for (String type : source.types) {
            Check.yes("the type " + type, type.matches(TYPES));
        }
    }

    private static void library() {
        for (String called : source.library) {
            boolean numbers = called.matches("java\\.lang\\.(Integer|Long|Math)\\.\\w+") && !called.endsWith("Exact");
            Check.yes("the library's " + called, numbers && !called.endsWith(".random") || LIBRARY.contains(called));
        }
    }

    private static void statics() {
        Check.no("a static block", source.hasStaticBlock);
        Check.same("static fields that are not written out", source.notWrittenOut, List.of());
        Check.same("assignments to static arrays", source.staticsAssigned, List.of());
        for (Field field : staticFields()) {
            Check.yes("final: " + field, Modifier.isFinal(field.getModifiers()));
        }
    }

    /** An array that is handed on could be changed under another name: so they are looked at behind each kind. */
    private static void staticsStay() {
        String before = staticArrays();
        Check.no("there are none", before.isEmpty());
        for (int kind = 0; kind < 16; kind++) {
            SpongeDesk desk = Edges.deskWithTape(Rows.odd(200, kind));
            desk.let(kind % 3);
            Rows.feed(desk, Rows.odd(300, kind));
            Edges.madeOfTape(desk, kind);
            Check.same("behind kind " + kind, staticArrays(), before);
        }
    }

    private static void thrown() {
        Check.yes("something is thrown", source.thrown.size() > 0);
        for (String name : source.thrown) {
            Check.yes("thrown: " + name, THROWN.contains(name));
        }
        Check.same("not new, or with a text that is not written", source.thrownOtherwise, List.of());
        Check.same("thrown in a constructor", source.thrownInConstructors, List.of());
    }

    private static void loops() {
        Check.yes("there are loops", source.loops > 0);
        Check.same("loops without an end", source.endlessLoops, List.of());
    }

    private static void depth() {
        for (String method : source.methods()) {
            Check.yes("calls from " + method, source.depth(method, MOST_DEEP + 1) <= MOST_DEEP);
        }
    }

    private static void sizes() {
        Check.yes("classes", source.classes <= MOST_CLASSES);
        for (String method : source.methods()) {
            Check.yes("parameters of " + method, source.parameters(method) <= MOST_PARAMETERS);
            Check.yes("lines of " + method, source.lines(method) <= MOST_LINES);
        }
        for (Class<?> type : allClasses()) {
            int fields = 0;
            for (Field field : type.getDeclaredFields()) {
                fields += Modifier.isStatic(field.getModifiers()) ? 0 : 1;
            }
            Check.yes("fields of " + type, fields <= MOST_FIELDS);
        }
    }

    /** The rule lets any method make objects; that none does is what keeps a run's room small. */
    private static void made() {
        Check.same("made elsewhere", source.madeElsewhere, List.of());
    }

    private static List<Class<?>> allClasses() {
        List<Class<?>> classes = new ArrayList<>(List.of(SpongeDesk.class.getDeclaredClasses()));
        classes.add(SpongeDesk.class);
        return classes;
    }

    private static List<Field> staticFields() {
        List<Field> fields = new ArrayList<>();
        for (Class<?> type : allClasses()) {
            for (Field field : type.getDeclaredFields()) {
                if (Modifier.isStatic(field.getModifiers())) {
                    fields.add(field);
                }
            }
        }
        return fields;
    }

    private static String staticArrays() {
        StringBuilder told = new StringBuilder();
        for (Field field : staticFields()) {
            if (field.getType().isArray()) {
                told.append(field.getName()).append(elements(field));
            }
        }
        return told.toString();
    }

    private static String elements(Field field) {
        field.setAccessible(true);
        StringBuilder told = new StringBuilder();
        try {
            Object array = field.get(null);
            for (int i = 0; i < java.lang.reflect.Array.getLength(array); i++) {
                told.append(' ').append(java.lang.reflect.Array.get(array, i));
            }
        } catch (IllegalAccessException closed) {
            throw new IllegalStateException(closed);
        }
        return told.append(' ').toString();
    }
}
