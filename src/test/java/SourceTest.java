import java.io.IOException;
import java.nio.file.Files;
import java.nio.file.Path;
import java.util.List;
import java.util.regex.Pattern;

/** What LANGUAGE.md rules out and a look at the text can find. The one argument: the source's path. */
public final class SourceTest {
    private static final Check CHECK = new Check("SourceTest");
    private static final int METHOD_LINES = 60;
    private static final int CLASSES = 12;
    private static final String[] RULED_OUT = {"\\bimport\\b", "\\bpackage\\b", "->", "::", "\\bcatch\\b",
        "\\btry\\b", "\\bfinally\\b", "\\bthrow\\b", "\\bsynchronized\\b", "\\bassert\\b", "\\bprotected\\b",
        "\\bstatic \\{", "\\bSystem\\.(?!arraycopy\\()", "\\bInteger\\.(?!bitCount\\()", "\\bMath\\.(?!min\\(|max\\()",
        "\\bobject\\b.*\\bequals\\b", "\\bequals\\(", "\\bhashCode\\b", "\\btoString\\b", "\\bThread\\b", "\\bdouble\\b",
        "\\bfloat\\b", "\\binstanceof\\b", "Exact\\b"};

    public static void main(String[] args) throws IOException {
        List<String> lines = Files.readAllLines(Path.of(args.length > 0 ? args[0]
                : "src/main/java/CrankedExcuse.java"));
        int classes = 0;
        int methodStart = 0;
        for (int n = 0; n < lines.size(); n++) {
            String line = lines.get(n);
            CHECK.due("line " + (n + 1) + " is ASCII", line.chars().allMatch(c -> c >= 32 && c < 127));
            String code = line.strip();
            if (code.startsWith("/") || code.startsWith("*")) {
                continue;
            }
            for (String out : RULED_OUT) {
                CHECK.due("line " + (n + 1) + ": " + out, !Pattern.compile(out).matcher(code).find());
            }
            if (code.matches(".*\\bclass \\w+ \\{")) {
                classes++;
            } else if (code.matches("[\\w\\[\\] ]+\\([\\w\\[\\], ]*\\) \\{")) {
                methodStart = n;
            } else if (code.equals("}")) {
                CHECK.due("line " + (n + 1) + " ends a short method", n - methodStart <= METHOD_LINES
                        || !line.matches(" {4,8}\\}"));
            }
        }
        CHECK.due("classes: " + classes, classes >= 1 && classes <= CLASSES);
        CHECK.end();
    }
}
