import java.io.IOException;
import java.nio.file.Files;
import java.nio.file.Path;
import java.util.List;
import java.util.regex.Pattern;

/** What can be seen of LANGUAGE.md's rules by reading the source line by line; run from the project's folder. */
public final class LanguageTest {
    private static final Path SOURCE = Path.of("src/main/java/ClashRocks.java");
    private static final Due due = new Due();

    public static void main(String[] args) throws IOException {
        List<String> lines = Files.readAllLines(SOURCE);
        String code = String.join("\n", lines).replaceAll("(?s)/\\*.*?\\*/", "").replaceAll("//[^\n]*", "");
        due.is("signs of 1 to 127 alone", code.chars().allMatch(c -> c > 0 && c < 127) ? 1 : 0, 1);
        String[] never = {"->", "::", "\\bfinally\\b", "\\bsynchronized\\b", "\\bassert\\b", "Exact\\b", "\\bpackage\\b",
            "\\bcatch\\b", "\\btry\\b", "\\bthrow\\b", "\\bdouble\\b", "\\bfloat\\b", "static\\s*\\{", "\\bprotected\\b",
            "\\bSystem\\.(?!arraycopy)", "\\bRandom\\b", "\\bThread\\b", "\\bObject\\b", "Integer\\.(?!bitCount)",
            "Math\\.(?!min|max)", "Arrays\\.(?!fill)", "import (?!java\\.util\\.Arrays;)", "while \\(true\\)",
            "\"[^\"\n]*\" \\+", "\\+ \""};
        for (String pattern : never) {
            due.is("no " + pattern, Pattern.compile(pattern).matcher(code).find() ? 1 : 0, 0);
        }
        int classes = code.split("\\b(class|enum|interface|record) ").length - 1;
        due.is(classes + " classes, some twelve at most", classes <= 12 ? 1 : 0, 1);
        shortMethods(lines);
        due.end();
    }

    /** Methods stand at one of two depths here, so a line with a brace alone at that depth ends one. */
    private static void shortMethods(List<String> lines) {
        Pattern head = Pattern.compile("( {4}| {8})[a-zA-Z][\\w<>\\[\\] ]*\\([^;]*\\{");
        for (int i = 0; i < lines.size(); i++) {
            if (!head.matcher(lines.get(i)).matches()) {
                continue;
            }
            String indent = lines.get(i).startsWith("        ") ? "        }" : "    }";
            int end = i;
            while (end < lines.size() && !lines.get(end).equals(indent)) {
                end++;
            }
            due.is("short: " + lines.get(i).trim(), end - i <= 60 ? 1 : 0, 1);
            due.is("seven parameters at most: " + lines.get(i).trim(), lines.get(i).split(",").length <= 7 ? 1 : 0, 1);
        }
    }
}
