import java.nio.charset.StandardCharsets;
import java.nio.file.Files;
import java.nio.file.Path;
import java.util.ArrayList;
import java.util.List;
import java.util.regex.Matcher;
import java.util.regex.Pattern;

/** What can be seen of the rules of LANGUAGE.md in the text of the class. */
public final class LanguageTest {
    private static final Check CHECK = new Check("LanguageTest");
    private static final Path FILE = Path.of("src", "main", "java", "RunningCount.java");
    private static final Pattern MADE = Pattern.compile("\\bnew\\b");
    private static final Pattern FIELD = Pattern.compile("private (final )?[\\w\\[\\]]+ \\w+ = new [^;]+;");
    private static final Pattern THROWN = Pattern.compile(".*throw new NoSuchElementException\\(\"[ -!#-~]+\"\\);");
    private static final Pattern METHOD = Pattern.compile(" +(public|private) [^=;]*\\) (throws \\w+ )?\\{");
    private static final String[] NOT_THERE = {
        "\\bpackage\\b", "\\bfinally\\b", "\\bsynchronized\\b", "\\bassert\\b", "\\btry\\b", "\\bcatch\\b", "->", "::",
        "\\bstatic \\{", "\\bprotected\\b", "Exact\\b", "getMessage", "\\bdouble\\b", "\\bThread\\b", "\\bRandom\\b",
        "\\bSystem\\b", "\\bObject\\b", "\\bhashCode\\b", "\\btoString\\b", "\\bequals\\b", "\\bvar\\b", "\\byield\\b",
    };

    private LanguageTest() {
    }

    public static void main(String[] args) throws Exception {
        List<String> lines = new ArrayList<>();
        for (String line : Files.readAllLines(FILE, StandardCharsets.US_ASCII)) {
            lines.add(withoutComment(line));
        }
        imports(lines);
        notThere(lines);
        made(lines);
        methods(lines);
        CHECK.end();
    }

    private static String withoutComment(String line) {
        int at = line.indexOf("//");
        String kept = at < 0 ? line : line.substring(0, at);
        return kept.strip().startsWith("/**") ? "" : kept;
    }

    private static void imports(List<String> lines) {
        CHECK.says("the face: import java.util.NoSuchElementException, rule 4: no other library");
        for (String line : lines) {
            if (line.contains("import") || line.contains("java.")) {
                CHECK.due(line, line.equals("import java.util.NoSuchElementException;"), true);
            }
        }
    }

    private static void notThere(List<String> lines) {
        CHECK.says("rules 1 to 6, 13: what the class has no need of");
        for (String part : NOT_THERE) {
            Pattern pattern = Pattern.compile(part);
            int found = 0;
            for (String line : lines) {
                found += pattern.matcher(line).find() ? 1 : 0;
            }
            CHECK.due("lines with " + part, found, 0);
        }
    }

    /** All rows are made with the object, so that a run's calls make nothing but exceptions. */
    private static void made(List<String> lines) {
        CHECK.says("rules 6, 12: what is made");
        for (String line : lines) {
            if (MADE.matcher(line).find()) {
                boolean known = FIELD.matcher(line.strip()).matches() || THROWN.matcher(line).matches()
                        || line.strip().equals("acts[i] = new Act();");
                CHECK.due(line, known, true);
            }
        }
    }

    private static void methods(List<String> lines) {
        CHECK.says("rule 11: methods stay short (some sixty lines)");
        for (int i = 0; i < lines.size(); i++) {
            Matcher method = METHOD.matcher(lines.get(i));
            if (method.matches()) {
                String end = " ".repeat(lines.get(i).indexOf(method.group(1))) + "}";
                int behind = i;
                while (behind < lines.size() && !lines.get(behind).equals(end)) {
                    behind++;
                }
                CHECK.due(lines.get(i).strip() + " lines: " + (behind - i), behind - i < 60, true);
            }
        }
    }
}
