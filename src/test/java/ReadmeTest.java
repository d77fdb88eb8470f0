import java.io.IOException;
import java.lang.reflect.Method;
import java.lang.reflect.Modifier;
import java.net.URL;
import java.net.URLClassLoader;
import java.nio.file.Files;
import java.nio.file.Path;
import java.util.ArrayList;
import java.util.Comparator;
import java.util.List;
import java.util.Map;
import java.util.Set;
import java.util.TreeMap;
import java.util.TreeSet;
import java.util.regex.Matcher;
import java.util.regex.Pattern;
import java.util.stream.Stream;
import javax.tools.ToolProvider;

/** The java blocks of README.md are one run: they are compiled as they stand, and each call answers as its line says. */
public final class ReadmeTest {
    private static final Due DUE = new Due("ReadmeTest");
    private static final Path README = Path.of("README.md");
    private static final Path TESTS = Path.of("src/test/java");

    /** Code, the answer, what it means. The first colon ends the answer, so no answer may hold one. */
    private static final Pattern SHOWN = Pattern.compile("(?:(\\w+ (\\w+)) = )?(.*);\\s*// ([^:]+)(?::.*)?");

    /** The run tells it the lines whose answer is another one, with that. */
    private static final String HEAD = """
        public final class ReadmeRun {
            static final int NONE = DoubleLedger.NONE, BAD = DoubleLedger.BAD, STATE = DoubleLedger.STATE, FULL = DoubleLedger.FULL;
            static final long NO = DoubleLedger.NO;
            public static void run(java.util.Map<Integer, String> wrong) {
        """;

    public static void main(String[] args) throws Exception {
        List<String> readme = Files.readAllLines(README);
        List<String> blocks = blocks(readme);
        answers(blocks);
        everyCallIsShown(String.join("\n", blocks));
        everyTestIsListed(readme);
        DUE.end();
    }

    /** The lines of the java blocks; all others are empty, so that each keeps its number. */
    private static List<String> blocks(List<String> readme) {
        List<String> found = new ArrayList<>();
        boolean isInside = false;
        for (String line : readme) {
            boolean isFence = line.startsWith("```");
            isInside = isFence ? line.equals("```java") : isInside;
            found.add(isInside && !isFence ? line : "");
        }
        return found;
    }

    private static void answers(List<String> blocks) throws Exception {
        StringBuilder code = new StringBuilder(HEAD);
        Map<Integer, String> shown = new TreeMap<>();
        for (int i = 0; i < blocks.size(); i++) {
            String line = blocks.get(i);
            Matcher m = SHOWN.matcher(line);
            if (m.matches()) {
                shown.put(i, m.group(4).trim());
                line = asked(i, m);
            } else {
                boolean isInLoop = line.startsWith(" ");
                DUE.is(title(i, line) + " shows no answer", line.contains("x.") && !isInLoop ? 1 : 0, 0);
            }
            code.append(line).append('\n');
        }
        Map<Integer, String> wrong = new TreeMap<>();
        run(code.append("}}\n").toString(), wrong);
        for (Map.Entry<Integer, String> one : shown.entrySet()) {
            String got = wrong.getOrDefault(one.getKey(), one.getValue());
            DUE.isText(title(one.getKey(), blocks.get(one.getKey())), got, one.getValue());
        }
    }

    private static String title(int at, String line) {
        return "README.md:" + (at + 1) + ": " + line.replaceFirst("\\s*//.*", "");
    }

    /** The line's code, and a look at its answer behind it. */
    private static String asked(int at, Matcher m) {
        boolean isNamed = m.group(1) != null;
        String name = isNamed ? m.group(2) : "got" + at;
        String declared = isNamed ? m.group(1) : "var " + name;
        String due = m.group(4).trim().replaceFirst("^-?[0-9]+$", "$0L");
        return declared + " = " + m.group(3) + "; if (" + name + " != (" + due + ")) wrong.put(" + at + ", \"\" + " + name + ");";
    }

    private static void run(String code, Map<Integer, String> wrong) throws Exception {
        Path out = Files.createTempDirectory("readme");
        try {
            Path source = Files.writeString(out.resolve("ReadmeRun.java"), code);
            String path = System.getProperty("java.class.path");
            int exit = ToolProvider.getSystemJavaCompiler().run(null, null, null, "-cp", path, "-d", out.toString(), source.toString());
            DUE.is("README.md: compiling its blocks", exit, 0);
            if (exit == 0) {
                URL[] place = {out.toUri().toURL()};
                try (URLClassLoader loader = new URLClassLoader(place, ReadmeTest.class.getClassLoader())) {
                    loader.loadClass("ReadmeRun").getMethod("run", Map.class).invoke(null, wrong);
                }
            }
        } finally {
            remove(out);
        }
    }

    private static void remove(Path folder) throws IOException {
        try (Stream<Path> all = Files.walk(folder)) {
            for (Path one : all.sorted(Comparator.reverseOrder()).toList()) {
                Files.delete(one);
            }
        }
    }

    private static void everyCallIsShown(String blocks) {
        for (Method m : DoubleLedger.class.getDeclaredMethods()) {
            if (Modifier.isPublic(m.getModifiers())) {
                DUE.is("README.md shows " + m.getName(), blocks.contains("x." + m.getName() + "(") ? 1 : 0, 1);
            }
        }
    }

    private static void everyTestIsListed(List<String> readme) throws IOException {
        Set<String> listed = new TreeSet<>();
        for (String line : readme) {
            Matcher row = Pattern.compile("\\| (\\w+Test) \\|.*").matcher(line);
            if (row.matches()) {
                listed.add(row.group(1));
            }
        }
        Set<String> there = new TreeSet<>();
        try (Stream<Path> all = Files.list(TESTS)) {
            all.map(file -> file.getFileName().toString()).filter(name -> name.endsWith("Test.java"))
                .forEach(name -> there.add(name.substring(0, name.length() - ".java".length())));
        }
        DUE.isText("README.md: the tests of its table", listed.toString(), there.toString());
    }
}
