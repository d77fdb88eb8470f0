import java.lang.reflect.Constructor;
import java.lang.reflect.Field;
import java.lang.reflect.Method;
import java.lang.reflect.Modifier;
import java.nio.file.Files;
import java.nio.file.Path;
import java.util.Arrays;
import java.util.List;
import java.util.Set;
import java.util.TreeSet;
import java.util.regex.Matcher;
import java.util.regex.Pattern;
import java.util.stream.Collectors;

/** The face of the document, and what of LANGUAGE.md can be seen from the source and the compiled class. */
public final class RulesTest {
    private static final Due DUE = new Due("RulesTest");
    private static final Path SOURCE = Path.of("src/main/java/DoubleLedger.java");
    private static final Path DOCUMENT = Path.of("../shared/DOC.md");

    public static void main(String[] args) throws Exception {
        face(Files.readString(DOCUMENT));
        members();
        names();
        String source = Files.readString(SOURCE);
        words(source);
        methods(withoutComments(source));
        DUE.end();
    }

    private static void isTrue(String rule, boolean holds) {
        DUE.is(rule, holds ? 1 : 0, 1);
    }

    private static void face(String document) {
        Set<String> due = new TreeSet<>();
        Matcher lines = Pattern.compile("    public (int|long) (\\w+)\\(([^)]*)\\);").matcher(document);
        while (lines.find()) {
            String kinds = Arrays.stream(lines.group(3).split(", ")).map(p -> p.split(" ")[0]).collect(Collectors.joining(","));
            due.add(lines.group(1) + " " + lines.group(2) + "(" + kinds + ")");
        }
        Set<String> got = new TreeSet<>();
        for (Method m : DoubleLedger.class.getDeclaredMethods()) {
            if (!Modifier.isPrivate(m.getModifiers())) {
                String kinds = Arrays.stream(m.getParameterTypes()).map(Class::getName).collect(Collectors.joining(","));
                got.add(m.getReturnType().getName() + " " + m.getName() + "(" + kinds + ")");
                isTrue("rule 1: " + m.getName() + " throws nothing it tells", m.getExceptionTypes().length == 0);
                isTrue("rule 1: " + m.getName() + " is public and of an object", m.getModifiers() == Modifier.PUBLIC);
            }
        }
        DUE.is("rule 1: methods of the document", due.size(), 42);
        DUE.isText("rule 1: the face", got.toString(), due.toString());
    }

    private static void members() throws Exception {
        isTrue("rule 1: public and final", DoubleLedger.class.getModifiers() == (Modifier.PUBLIC | Modifier.FINAL));
        Constructor<?>[] made = DoubleLedger.class.getDeclaredConstructors();
        DUE.is("rule 1: one constructor", made.length, 1);
        isTrue("rule 1: it is public", made[0].getModifiers() == Modifier.PUBLIC && made[0].getParameterCount() == 0);
        Set<String> open = new TreeSet<>();
        for (Field f : DoubleLedger.class.getDeclaredFields()) {
            if (!Modifier.isPrivate(f.getModifiers())) {
                open.add(f.getName() + " " + f.getType() + " " + f.get(null) + " " + f.getModifiers());
            }
            isTrue("rule 5: " + f.getName(), !Modifier.isStatic(f.getModifiers()) || Modifier.isFinal(f.getModifiers()));
        }
        int constant = Modifier.PUBLIC | Modifier.STATIC | Modifier.FINAL;
        DUE.isText("rule 1: the constants", open.toString(), "[BAD int -2 " + constant + ", FULL int -4 " + constant
            + ", NO long " + Long.MIN_VALUE + " " + constant + ", NONE int -1 " + constant + ", STATE int -3 " + constant + "]");
        Class<?>[] inside = DoubleLedger.class.getDeclaredClasses();
        isTrue("rule 11: classes", inside.length + 1 <= 12);
        for (Class<?> c : inside) {
            isTrue("rule 1: " + c.getName(), Modifier.isStatic(c.getModifiers()) && !Modifier.isPublic(c.getModifiers()));
            long fields = Arrays.stream(c.getDeclaredFields()).filter(f -> !Modifier.isStatic(f.getModifiers())).count();
            isTrue("rule 11: fields of " + c.getName(), fields <= 20);
        }
    }

    private static void names() {
        Set<String> face = new TreeSet<>();
        for (Method m : DoubleLedger.class.getDeclaredMethods()) {
            if (Modifier.isPublic(m.getModifiers())) {
                isTrue("rule 1: one of a name: " + m.getName(), face.add(m.getName()));
            }
        }
        for (Method m : DoubleLedger.class.getDeclaredMethods()) {
            isTrue("rule 11: " + m.getName(), m.getParameterCount() <= 7);
            isTrue("rule 1: private " + m.getName(), Modifier.isPublic(m.getModifiers()) || !face.contains(m.getName()));
        }
        for (Class<?> c : DoubleLedger.class.getDeclaredClasses()) {
            for (Method m : c.getDeclaredMethods()) {
                isTrue("rule 11: " + m.getName(), m.getParameterCount() <= 7);
                isTrue("rule 1: " + c.getName() + "." + m.getName(), !face.contains(m.getName()));
            }
        }
    }

    private static String withoutComments(String source) {
        return source.replaceAll("(?s)/\\*.*?\\*/", "").replaceAll("//[^\n]*", "");
    }

    private static void words(String source) {
        isTrue("rule 4: signs 1 to 127", source.chars().allMatch(c -> c >= 1 && c <= 127));
        String code = withoutComments(source);
        List<String> banned = List.of("package", "import", "->", "::", "\\btry\\b", "\\bcatch\\b", "\\bfinally\\b", "\\bthrow",
            "\\bsynchronized\\b", "\\bassert\\b", "\\bprotected\\b", "\\bvar\\b", "static \\{", "Exact", "\\bDouble\\b", "\\bFloat\\b",
            "\\bCharacter\\b", "\\bObject\\b", "\\bhashCode\\b", "\\btoString\\b", "\\bequals\\b", "\\bRandom\\b", "\\bThread\\b",
            "System\\.(?!arraycopy)", "Math\\.(?!abs|max|min)", "\\bjava\\.", "\\bwhile\\b", "@");
        for (String word : banned) {
            isTrue("no " + word, !Pattern.compile(word).matcher(code).find());
        }
    }

    private static void methods(String code) {
        Matcher heads = Pattern.compile("(?m)^( {4}| {8})(?!if|for|switch|\\W)[^=;\n]*\\) \\{$").matcher(code);
        int found = 0;
        while (heads.find()) {
            int end = code.indexOf("\n" + heads.group(1) + "}", heads.start());
            long lines = code.substring(heads.start(), Math.max(end, heads.start())).lines().count();
            isTrue("rule 11: a method of " + lines + " lines", end > 0 && lines <= 60);
            found++;
        }
        isTrue("rule 11: the methods are found", found > 80);
    }
}
