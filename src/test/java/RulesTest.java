import java.lang.reflect.Constructor;
import java.lang.reflect.Field;
import java.lang.reflect.Method;
import java.lang.reflect.Modifier;
import java.nio.file.Files;
import java.nio.file.Path;
import java.util.Arrays;
import java.util.List;
import java.util.Set;
import java.util.TreeSet;
import java.util.regex.Matcher;
import java.util.regex.Pattern;
import java.util.stream.Collectors;

/** The face of the document, and what of LANGUAGE.md can be seen from the source and the compiled class. */
public final class RulesTest {
    private static final Due DUE = new Due("RulesTest");
    private static final Path SOURCE = Path.of("src/main/java/DoubleLedger.java");
    private static final Path DOCUMENT = Path.of("../shared/DOC.md");
    private static final String BAD = """
        import java.util.ArrayList;
        public final class Bad {
            static int counter = 0;
            static final int[][] table = {};
            static { counter = 1; }
            class Inner { }
            int itself(int n) { return n > 0 ? other(n) : 0; }
            int other(int n) { return itself(n - 1); }
            Runnable lambda() { return () -> { }; }
            Runnable reference() { return this::loops; }
            Object anonymous() { return new Object() { }; }
            void loops() {
                while (counter > 0) { counter--; }
                do { counter++; } while (counter < 0);
                for (int i = 0; i < 9; i++) { i--; }
                for (int i = 0; counter < 9; i++) { counter++; }
                for (Object o : new ArrayList<Object>()) { }
            }
            void throwing() { try { throw new IllegalStateException(); } catch (IllegalStateException e) { } }
            int[] making(int n) { assert n > 0; synchronized (this) { return new int[n]; } }
            boolean texts(String a, String b) { return a == b || a.isBlank(); }
            String joined(String a) { return a + 1; }
            double rest(double a) { return a % 2; }
            long exact(long a) { return Math.addExact(a, 1L); }
            void many(int a, int b, int c, int d, int e, int f, int g, int h) { a1(); }
            void a1() { a2(); } void a2() { a3(); } void a3() { a4(); } void a4() { a5(); }
            void a5() { a6(); } void a6() { a7(); } void a7() { a8(); } void a8() { a9(); } void a9() { }
            @Deprecated void annotated() { }
            void lengthy() { LINES }
        }
        """;
    private static final List<String> BROKEN = List.of("rule 4, line 1: an import", "rule 5, line 3:", "rule 5, line 4:",
        "rule 3, line 4: the type int[][]", "rule 5, line 5: an initialiser", "rule 2, line 6:", "rule 8: Bad.itself(int) calls",
        "rule 8: Bad.other(int) calls", "rule 2, line 9: a lambda", "rule 2, line 10: a method ref", "rule 2, line 11: a local",
        "rule 9, line 13: while", "rule 9, line 14: do", "rule 9, line 15: a loop", "rule 9, line 16: a loop", "rule 9, line 17: for",
        "rule 4, line 17: new java.util.ArrayList", "rule 6, line 19: throw", "rule 6, line 19: try", "rule 6, line 20: assert",
        "rule 6, line 20: sync", "rule 12, line 20: an array", "rule 6, line 21: EQUAL_TO", "rule 4, line 21: java.lang.String.isBlank",
        "rule 10, line 22: PLUS", "rule 3, line 23: REMAINDER", "rule 4, line 24: java.lang.Math.addExact", "rule 11, line 25: more than seven",
        "rule 11: Bad.a1() goes 9 deep", "rule 4, line 28: an annotation", "rule 11, line 29: a method of 61 lines");

    public static void main(String[] args) throws Exception {
        face(Files.readString(DOCUMENT));
        members();
        names();
        source();
        DUE.end();
    }

    private static void isTrue(String rule, boolean holds) {
        DUE.is(rule, holds ? 1 : 0, 1);
    }

    private static void face(String document) {
        Set<String> due = new TreeSet<>();
        Matcher lines = Pattern.compile("    public (int|long) (\\w+)\\(([^)]*)\\);").matcher(document);
        while (lines.find()) {
            String kinds = Arrays.stream(lines.group(3).split(", ")).map(p -> p.split(" ")[0]).collect(Collectors.joining(","));
            due.add(lines.group(1) + " " + lines.group(2) + "(" + kinds + ")");
        }
        Set<String> got = new TreeSet<>();
        for (Method m : DoubleLedger.class.getDeclaredMethods()) {
            if (!Modifier.isPrivate(m.getModifiers())) {
                String kinds = Arrays.stream(m.getParameterTypes()).map(Class::getName).collect(Collectors.joining(","));
                got.add(m.getReturnType().getName() + " " + m.getName() + "(" + kinds + ")");
                isTrue("rule 1: " + m.getName() + " throws nothing it tells", m.getExceptionTypes().length == 0);
                isTrue("rule 1: " + m.getName() + " is public and of an object", m.getModifiers() == Modifier.PUBLIC);
            }
        }
        DUE.is("rule 1: methods of the document", due.size(), 42);
        DUE.isText("rule 1: the face", got.toString(), due.toString());
    }

    private static void members() throws Exception {
        isTrue("rule 1: public and final", DoubleLedger.class.getModifiers() == (Modifier.PUBLIC | Modifier.FINAL));
        Constructor<?>[] made = DoubleLedger.class.getDeclaredConstructors();
        DUE.is("rule 1: one constructor", made.length, 1);
        isTrue("rule 1: it is public", made[0].getModifiers() == Modifier.PUBLIC && made[0].getParameterCount() == 0);
        Set<String> open = new TreeSet<>();
        for (Field f : DoubleLedger.class.getDeclaredFields()) {
            if (!Modifier.isPrivate(f.getModifiers())) {
                open.add(f.getName() + " " + f.getType() + " " + f.get(null) + " " + f.getModifiers());
            }
            isTrue("rule 5: " + f.getName(), !Modifier.isStatic(f.getModifiers()) || Modifier.isFinal(f.getModifiers()));
        }
        int constant = Modifier.PUBLIC | Modifier.STATIC | Modifier.FINAL;
        DUE.isText("rule 1: the constants", open.toString(), "[BAD int -2 " + constant + ", FULL int -4 " + constant
            + ", NO long " + Long.MIN_VALUE + " " + constant + ", NONE int -1 " + constant + ", STATE int -3 " + constant + "]");
        Class<?>[] inside = DoubleLedger.class.getDeclaredClasses();
        isTrue("rule 11: classes", inside.length + 1 <= 12);
        for (Class<?> c : inside) {
            isTrue("rule 1: " + c.getName(), Modifier.isStatic(c.getModifiers()) && !Modifier.isPublic(c.getModifiers()));
            long fields = Arrays.stream(c.getDeclaredFields()).filter(f -> !Modifier.isStatic(f.getModifiers())).count();
            isTrue("rule 11: fields of " + c.getName(), fields <= 20);
        }
    }

    private static void names() {
        Set<String> face = new TreeSet<>();
        for (Method m : DoubleLedger.class.getDeclaredMethods()) {
            if (Modifier.isPublic(m.getModifiers())) {
                isTrue("rule 1: one of a name: " + m.getName(), face.add(m.getName()));
            }
        }
        for (Method m : DoubleLedger.class.getDeclaredMethods()) {
            isTrue("rule 11: " + m.getName(), m.getParameterCount() <= 7);
            isTrue("rule 1: private " + m.getName(), Modifier.isPublic(m.getModifiers()) || !face.contains(m.getName()));
        }
        for (Class<?> c : DoubleLedger.class.getDeclaredClasses()) {
            for (Method m : c.getDeclaredMethods()) {
                isTrue("rule 11: " + m.getName(), m.getParameterCount() <= 7);
                isTrue("rule 1: " + c.getName() + "." + m.getName(), !face.contains(m.getName()));
            }
        }
    }

    /** The class breaks no rule; and a source that breaks most of what is looked for shows that it would be seen. */
    private static void source() throws Exception {
        isTrue("rule 4: signs 1 to 127", Files.readString(SOURCE).chars().allMatch(c -> c >= 1 && c <= 127));
        for (String broken : SourceRules.brokenIn(SOURCE.toFile())) {
            isTrue(broken, false);
        }
        Path folder = Files.createTempDirectory("rules");
        Path bad = Files.writeString(folder.resolve("Bad.java"), BAD.replace("LINES", "\n".repeat(60)));
        String seen = String.join("\n", SourceRules.brokenIn(bad.toFile()));
        Files.delete(bad);
        Files.delete(folder);
        for (String due : BROKEN) {
            isTrue("seen in a bad source: " + due, seen.contains(due));
        }
    }
}
