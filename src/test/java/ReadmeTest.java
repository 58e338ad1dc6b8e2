import java.io.IOException;
import java.lang.reflect.Method;
import java.lang.reflect.Modifier;
import java.net.URL;
import java.net.URLClassLoader;
import java.nio.charset.StandardCharsets;
import java.nio.file.Files;
import java.nio.file.Path;
import java.util.ArrayList;
import java.util.List;
import java.util.Set;
import java.util.TreeSet;
import java.util.regex.Matcher;
import java.util.regex.Pattern;
import java.util.stream.Stream;

/** README.md: its example is compiled as it stands and each answer asked for; calls, classes, tests are those there are. */
public final class ReadmeTest {
    private static final Path TESTS = Path.of("src/test/java");
    private static final Path CI = Path.of(".ci/run");
    private static final Pattern BLOCK = Pattern.compile("^```(\\w+)\\n(.*?)^```$", Pattern.MULTILINE | Pattern.DOTALL);
    private static final Pattern ASKED = Pattern.compile("x\\.\\w+\\(.*\\);.*");
    private static final Pattern ANSWERED = Pattern.compile("(x\\.\\w+\\(.*\\));\\s+// (-?\\d+|true|false)(: .*)?");
    private static int passed = 0;
    private static int failed = 0;

    private ReadmeTest() {
    }

    public static void main(String[] args) throws IOException, InterruptedException, ReflectiveOperationException {
        String readme = read(Path.of("README.md"));
        example(blocks(readme, "java"));
        calls(part(readme, "How to use it"));
        classes(part(readme, "How it is built"));
        tests(part(readme, "How to run its tests"));
        way(blocks(readme, "sh"));
        index(read(Path.of("EDGES.md")));
        System.out.println("ReadmeTest: " + passed + " passed, " + failed + " failed");
        if (failed > 0) {
            System.exit(1);
        }
    }

    private static void holds(String what, boolean fine) {
        if (fine) {
            passed++;
        } else {
            failed++;
            System.out.println(what);
        }
    }

    private static void same(String what, Object told, Object found) {
        holds(what + " are told as " + told + ", but are " + found, told.equals(found));
    }

    private static String read(Path file) throws IOException {
        return Files.readString(file, StandardCharsets.UTF_8);
    }

    private static List<String> blocks(String page, String language) {
        List<String> found = new ArrayList<>();
        Matcher m = BLOCK.matcher(page);
        while (m.find()) {
            if (m.group(1).equals(language)) {
                found.add(m.group(2));
            }
        }
        return found;
    }

    /** What stands under a heading, without the blocks of code. */
    private static String part(String page, String heading) {
        String prose = BLOCK.matcher(page).replaceAll("");
        int from = prose.indexOf("\n## " + heading + "\n");
        int to = prose.indexOf("\n## ", from + 1);
        holds("there is no heading " + heading, from >= 0);
        return from < 0 ? "" : prose.substring(from, to < 0 ? prose.length() : to);
    }

    private static Set<String> all(String text, String pattern) {
        Set<String> found = new TreeSet<>();
        Matcher m = Pattern.compile(pattern).matcher(text);
        while (m.find()) {
            found.add(m.group(1));
        }
        return found;
    }

    private static void example(List<String> blocks) throws IOException, InterruptedException, ReflectiveOperationException {
        if (blocks.size() != 2) {
            holds("the example is no way to feed a text and a run of calls", false);
            return;
        }
        List<String> rows = new ArrayList<>();
        List<String> due = new ArrayList<>();
        StringBuilder source = new StringBuilder("public final class ReadmeExample {\n").append(blocks.get(0))
            .append("public static java.util.List<String> answers() {\n")
            .append("java.util.List<String> found = new java.util.ArrayList<>();\n");
        for (String row : blocks.get(1).split("\n")) {
            Matcher m = ANSWERED.matcher(row);
            if (m.matches()) {
                rows.add(m.group(1));
                due.add(m.group(2));
                source.append("found.add(String.valueOf(").append(m.group(1)).append("));\n");
            } else {
                holds("no answer is told to " + row, !ASKED.matcher(row).matches());
                source.append(row).append('\n');
            }
        }
        List<?> found = run(source.append("return found;\n}\n}\n").toString());
        holds("the example has too few calls, or was not run", rows.size() > 20 && found.size() == rows.size());
        for (int i = 0; i < rows.size() && i < found.size(); i++) {
            String answer = String.valueOf(found.get(i));
            holds("row " + (i + 1) + ": " + rows.get(i) + " answered " + answer + ", told is " + due.get(i), answer.equals(due.get(i)));
        }
    }

    private static List<?> run(String source) throws IOException, InterruptedException, ReflectiveOperationException {
        Path place = Files.createTempDirectory("readme");
        Path file = place.resolve("ReadmeExample.java");
        Path made = place.resolve("ReadmeExample.class");
        try {
            Files.writeString(file, source);
            int code = new ProcessBuilder("javac", "--release", "17", "-cp", System.getProperty("java.class.path"),
                "-d", place.toString(), file.toString()).inheritIO().start().waitFor();
            if (code != 0) {
                return List.of();
            }
            try (URLClassLoader loader = new URLClassLoader(new URL[] {place.toUri().toURL()})) {
                return (List<?>) loader.loadClass("ReadmeExample").getMethod("answers").invoke(null);
            }
        } finally {
            Files.deleteIfExists(file);
            Files.deleteIfExists(made);
            Files.deleteIfExists(place);
        }
    }

    /** The names of the parameters are not in the class, so the source is asked for them. */
    private static void calls(String told) throws IOException {
        Set<String> found = new TreeSet<>();
        Matcher m = Pattern.compile("    public (?:int|long|boolean) (\\w+)\\((.*)\\) \\{").matcher(read(Path.of("src/main/java/ChalkRoom.java")));
        while (m.find()) {
            found.add(m.group(1) + "(" + m.group(2).replaceAll("(int|long) ", "") + ")");
        }
        int many = 0;
        for (Method method : ChalkRoom.class.getDeclaredMethods()) {
            many += Modifier.isPublic(method.getModifiers()) ? 1 : 0;
        }
        holds("not all public calls were found in the source", many == found.size());
        String table = told.substring(Math.max(0, told.indexOf("| for | calls |")));
        same("the calls", all(table, "`(\\w+\\([^`]*\\))`"), found);
    }

    private static void classes(String told) {
        Set<String> found = new TreeSet<>();
        for (Class<?> inside : ChalkRoom.class.getDeclaredClasses()) {
            found.add(inside.getSimpleName());
        }
        same("the classes inside", all(told, "`([A-Z]\\w*)`"), found);
    }

    private static void tests(String told) throws IOException {
        Set<String> found = new TreeSet<>();
        try (Stream<Path> files = Files.list(TESTS)) {
            files.forEach(file -> found.addAll(all(file.getFileName().toString(), "^(\\w+Test)\\.java$")));
        }
        same("the tests", all(told, "`(\\w+Test)`"), found);
    }

    private static void way(List<String> blocks) throws IOException {
        String script = read(CI);
        holds(".ci/run is not executable", Files.isExecutable(CI));
        holds("the way to run the tests is not told", blocks.contains(".ci/run\n"));
        for (String block : blocks) {
            for (String row : block.split("\n")) {
                holds(row + " is not the way that .ci/run goes", row.matches("\\.ci/run( \\w+)*"));
            }
        }
        holds(".ci/run does not run every test of the project", script.contains("for file in src/test/java/*Test.java; do"));
        holds(".ci/run does not run every shared test", script.contains("shared=../shared/tests\n")
            && script.contains("for file in \"$shared\"/*.java; do"));
    }

    /** Each test that the index of boundaries names is there. */
    private static void index(String edges) throws IOException {
        Set<String> there = new TreeSet<>();
        for (String name : new String[] {"RefusalsTest", "TextEdgesTest", "CallEdgesTest", "PlanEdgesTest", "SweepTest"}) {
            there.addAll(all(read(TESTS.resolve(name + ".java")), "    private static void (\\w+)\\("));
        }
        Set<String> named = new TreeSet<>();
        for (String row : edges.split("\n")) {
            named.addAll(all(row.substring(Math.max(0, row.lastIndexOf('|', row.length() - 2))), "\\b([a-z]+[A-Z]\\w*)"));
        }
        holds("EDGES.md names too few tests", named.size() > 90);
        named.removeAll(there);
        holds("EDGES.md names tests that there are not: " + named, named.isEmpty());
    }
}
