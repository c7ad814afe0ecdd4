import java.io.IOException;
import java.nio.file.Files;
import java.nio.file.Path;
import java.util.List;
import java.util.regex.Matcher;
import java.util.regex.Pattern;
import java.util.stream.Collectors;
import java.util.stream.Stream;

/** What can be seen of the rules of ../shared/LANGUAGE.md in the text of the class, each by its number. */
public final class LanguageTest {
    private static final Check CHECK = new Check();
    // BellBook uses less than the rules leave it; a word that it comes to need is to be read up in the rules first.
    private static final String[][] NEVER = {
        {"0", "\\bpackage\\b", "\\bimport\\b"},
        {"1", "\\bprotected\\b"},
        {"2", "->", "::"},
        {"3", "\\bdouble\\b", "\\bfloat\\b", "\\bObject\\b"},
        {"4", "Exact\\b", "\\bjava\\.", "\\bSystem\\.(?!arraycopy)", "\\bMath\\.(?!abs|max|min)"},
        {"5", "\\bstatic\\s*\\{"},
        {"6", "\\bthrows?\\b", "\\btry\\b", "\\bcatch\\b", "\\bfinally\\b", "\\bassert\\b", "\\bsynchronized\\b",
            "\\b(equals|hashCode|toString)\\b"},
        {"9", "\\bwhile\\b", "for\\s*\\(\\s*;"},
        {"10", "\""},
    };
    private static final Pattern METHOD = Pattern.compile(
        "(?m)^( +)(?:public |private |static |final )*(?:int|boolean|void|long|Plan|BellBook) ?(\\w*)\\(([^)]*)\\) \\{\\n");

    public static void main(String[] args) throws IOException {
        try (Stream<Path> files = Files.walk(Path.of("src/main"))) {
            List<String> found = files.filter(Files::isRegularFile).map(Path::toString).collect(Collectors.toList());
            CHECK.due("rule 1: one file, not " + found, found.size(), 1);
        }
        String text = Files.readString(Path.of("src/main/java/BellBook.java"));
        String code = text.replaceAll("(?s)/\\*.*?\\*/", "").replaceAll("//.*", "");
        words(code);
        methods(text);
        CHECK.due("rule 11: some twelve classes at most", count(code, "\\bclass\\b") <= 12 ? 1 : 0, 1);
        CHECK.due("rule 1: one public class", count(code, "\\bpublic final class\\b"), 1);
        int inside = count(code, "private static final class\\b");
        CHECK.due("rule 2: static classes inside", count(code, "\\bclass\\b"), 1 + inside);
        int kept = count(code, "(?m)^ +\\w+ = new ");
        CHECK.due("rule 12: nothing is made but for a field", count(code, "(?m)^.* new "), kept);
        CHECK.finish();
    }

    private static void words(String code) {
        for (String[] rule : NEVER) {
            for (int i = 1; i < rule.length; i++) {
                Matcher m = Pattern.compile(rule[i]).matcher(code);
                CHECK.due("rule " + rule[0] + ": " + rule[i], m.find() ? 1 : 0, 0);
            }
        }
    }

    private static void methods(String text) {
        int methods = 0;
        for (Matcher m = METHOD.matcher(text); m.find(); methods++) {
            int end = text.indexOf("\n" + m.group(1) + "}\n", m.end() - 1);
            int lines = count(text.substring(m.start(), end), "\n");
            int parameters = m.group(3).isEmpty() ? 0 : 1 + count(m.group(3), ",");
            CHECK.due("rule 11: " + m.group(2) + " is short, not " + lines, lines <= 60 ? 1 : 0, 1);
            CHECK.due("rule 11: " + m.group(2) + " has seven parameters at most", parameters <= 7 ? 1 : 0, 1);
        }
        CHECK.due("methods are found", methods > 33 ? 1 : 0, 1);
    }

    private static int count(String text, String what) {
        int n = 0;
        for (Matcher m = Pattern.compile(what).matcher(text); m.find(); ) n++;
        return n;
    }
}
