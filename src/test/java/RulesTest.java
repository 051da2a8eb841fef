import java.nio.file.Files;
import java.nio.file.Path;
import java.util.List;

/** What of LANGUAGE.md can be seen from the source's lines. Runs in the project's folder. */
public final class RulesTest {
    private static final String[] NEVER = {"catch", "finally", "try ", "->", "::", "synchronized", "assert ", "Exact(",
        "getMessage", "hashCode", "toString", "static {", "System.out", "ArrayList", "protected ", "volatile", "\" +",
        "+ \"", "java.io", "Random", "Thread", "System.nano", "System.current", "double", "float", "package "};

    public static void main(String[] args) throws Exception {
        List<String> lines = Files.readAllLines(Path.of("src/main/java/TinNation.java"));
        int classes = 0;
        for (int i = 0; i < lines.size(); i++) {
            String line = lines.get(i);
            String code = line.strip();
            if (code.startsWith("*") || code.startsWith("/*") || code.startsWith("//")) {
                continue;
            }
            for (String never : NEVER) {
                Check.due("line " + (i + 1) + " has <" + never + ">", false, line.contains(never));
            }
            if (code.startsWith("import ")) {
                Check.due("line " + (i + 1), true, code.equals("import java.util.NoSuchElementException;"));
            }
            if (line.contains(" class ")) {
                classes++;
            } else if (isMethod(line)) {
                int length = lengthOf(lines, i);
                Check.due("line " + (i + 1) + ", a method of " + length + " lines", true, length <= 60);
                Check.due("line " + (i + 1) + ", seven parameters at most", true, code.split(",").length <= 7);
            }
        }
        Check.due("at most twelve classes: " + classes, true, classes <= 12);
        Check.end("RulesTest");
    }

    private static boolean isMethod(String line) {
        return line.matches("( {4}| {8})[A-Za-z].*\\).*\\{") && !line.strip().matches("(if|for|while|switch)\\b.*");
    }

    /** Up to the bracket that stands as far to the right as the method itself. */
    private static int lengthOf(List<String> lines, int from) {
        String line = lines.get(from);
        String end = line.substring(0, line.length() - line.stripLeading().length()) + "}";
        int length = 1;
        while (!lines.get(from + length).equals(end)) {
            length++;
        }
        return length + 1;
    }
}
