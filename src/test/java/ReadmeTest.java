import java.io.File;
import java.io.IOException;
import java.lang.reflect.Method;
import java.lang.reflect.Modifier;
import java.net.URL;
import java.net.URLClassLoader;
import java.nio.charset.StandardCharsets;
import java.nio.file.Files;
import java.nio.file.Path;
import java.util.ArrayList;
import java.util.List;
import java.util.TreeSet;
import java.util.regex.Matcher;
import java.util.regex.Pattern;
import javax.tools.JavaCompiler;
import javax.tools.ToolProvider;

/** What README.md shows of the use of the class is compiled as it stands there and run. */
public final class ReadmeTest {
    private static final Check CHECK = new Check("ReadmeTest");
    private static final Path OUT = Path.of("build", "readme");
    private static final Pattern CALL = Pattern.compile("(x\\.(\\w+)\\([^;]*\\)); +// ([\\w-]+): .+");
    private static final Pattern TABLE_ROW = Pattern.compile("\\| (\\w+Test) \\| .+ \\|");

    private ReadmeTest() {
    }

    public static void main(String[] args) throws Exception {
        List<String> page = Files.readAllLines(Path.of("README.md"), StandardCharsets.UTF_8);
        runUse(page);
        compareTable(page);
        CHECK.end();
    }

    private static void runUse(List<String> page) throws Exception {
        StringBuilder members = new StringBuilder();
        StringBuilder statements = new StringBuilder();
        TreeSet<String> shown = new TreeSet<>();
        for (List<String> piece : pieces(page)) {
            if (piece.get(0).startsWith("static ")) {
                members.append(String.join("\n", piece)).append('\n');
            } else {
                piece.forEach(line -> statements.append(statementOf(line, shown)).append('\n'));
            }
        }
        for (Method method : RunningCount.class.getDeclaredMethods()) {
            if (Modifier.isPublic(method.getModifiers())) {
                CHECK.due("README.md shows " + method.getName(), shown.contains(method.getName()), true);
            }
        }
        for (String answer : answersOf(members.toString(), statements.toString())) {
            String[] parts = answer.split("\t");
            CHECK.due(parts[0] + " as README.md names it: " + parts[2] + ", answered: " + parts[1],
                    parts[1].equals(parts[2]), true);
        }
    }

    private static List<List<String>> pieces(List<String> page) {
        List<List<String>> pieces = new ArrayList<>();
        boolean within = false;
        for (String line : page) {
            if (line.startsWith("```")) {
                within = line.equals("```java");
                if (within) {
                    pieces.add(new ArrayList<>());
                }
            } else if (within) {
                pieces.get(pieces.size() - 1).add(line);
            }
        }
        CHECK.due("README.md has pieces of Java, " + pieces.size(), pieces.size() > 1, true);
        return pieces;
    }

    /** A line that calls x must name the answer; it becomes a line that keeps the answer and the one named. */
    private static String statementOf(String line, TreeSet<String> shown) {
        if (!line.startsWith("x.")) {
            return line;
        }
        Matcher call = CALL.matcher(line);
        CHECK.due("a call and its answer: " + line, call.matches(), true);
        if (!call.matches()) {
            return "";
        }
        shown.add(call.group(2));
        return "keep(\"" + call.group(1) + "\", () -> " + call.group(1) + ", \"" + call.group(3) + "\");";
    }

    private static List<String> answersOf(String members, String statements) throws Exception {
        String source = "public final class ReadmeUse {\n"
                + "static final java.util.List<String> ANSWERS = new java.util.ArrayList<>();\n"
                + "static void keep(String call, java.util.concurrent.Callable<Object> asked, String want) {\n"
                + "Object got;\n"
                + "try { got = asked.call(); } catch (Exception e) { got = e.getClass().getSimpleName(); }\n"
                + "ANSWERS.add(call + \"\\t\" + got + \"\\t\" + want);\n}\n"
                + members
                + "public static java.util.List<String> answers() {\n" + statements + "return ANSWERS;\n}\n}\n";
        compile(source);
        List<String> answers = new ArrayList<>();
        try (URLClassLoader loader = new URLClassLoader(new URL[] {OUT.toUri().toURL()})) {
            Object made = loader.loadClass("ReadmeUse").getMethod("answers").invoke(null);
            for (Object answer : (List<?>) made) {
                answers.add((String) answer);
            }
        }
        return answers;
    }

    private static void compile(String source) throws IOException {
        Files.createDirectories(OUT);
        Path file = OUT.resolve("ReadmeUse.java");
        Files.writeString(file, source);
        JavaCompiler compiler = ToolProvider.getSystemJavaCompiler();
        int exit = compiler.run(null, null, null, "--release", "17", "-cp", System.getProperty("java.class.path"),
                "-d", OUT.toString(), file.toString());
        CHECK.due("README.md's Java compiles", exit, 0);
    }

    /** The table of README.md names every test of the project and no other. */
    private static void compareTable(List<String> page) {
        TreeSet<String> told = new TreeSet<>();
        for (String line : page) {
            Matcher row = TABLE_ROW.matcher(line);
            if (row.matches()) {
                told.add(row.group(1));
            }
        }
        TreeSet<String> found = new TreeSet<>();
        String[] files = new File("src/test/java").list();
        for (String file : files == null ? new String[0] : files) {
            if (file.endsWith("Test.java")) {
                found.add(file.substring(0, file.length() - ".java".length()));
            }
        }
        CHECK.due("the tests " + found + ", named by README.md: " + told, found.equals(told), true);
    }
}
