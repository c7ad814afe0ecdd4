import java.io.IOException;
import java.nio.file.Files;
import java.nio.file.Path;
import java.util.List;
import java.util.regex.Matcher;
import java.util.regex.Pattern;

/** The calls that README.md shows answer what it says; its answers by name have the number it tells. */
public final class ReadmeTest {
    private static final Check CHECK = new Check();
    private static final Pattern CALL = Pattern.compile("x\\.(\\w+\\(.*?\\));\\s+// (-?\\w+): .*");
    private static final Pattern NAMED = Pattern.compile("`([A-Z]+)` \\((-\\d)\\)");
    private static final List<String> NAMES = List.of("UNKNOWN", "OUTSIDE", "STATE", "FULL", "NO", "NONE");

    public static void main(String[] args) throws IOException {
        String page = Files.readString(Path.of("README.md"));
        String shown = between(page, "```java\n", "```");
        Script x = new Script();
        for (String line : shown.split("\n")) {
            if (!line.startsWith("x.")) continue;
            Matcher call = CALL.matcher(line);
            if (call.matches()) CHECK.due(line, x.run(call.group(1)), answer(call.group(2)));
            else CHECK.due(line + " tells its answer", 0, 1);
        }
        int named = 0;
        for (Matcher m = NAMED.matcher(page); m.find(); named++) {
            CHECK.due(m.group(1), Integer.parseInt(m.group(2)), answer(m.group(1)));
        }
        CHECK.due("answers by name", named, NAMES.size());
        for (String word : new String[] {"`new BellBook()`", "at most 512", "refused", "\n.ci/run\n"}) {
            CHECK.due("README.md says " + word.trim(), page.contains(word) ? 1 : 0, 1);
        }
        CHECK.finish();
    }

    private static int answer(String word) {
        int name = NAMES.indexOf(word);
        return name >= 0 ? -1 - name : Integer.parseInt(word);
    }

    private static String between(String page, String from, String to) {
        int start = page.indexOf(from);
        int end = page.indexOf(to, start + from.length());
        if (start < 0 || end < 0) throw new IllegalStateException("README.md shows no calls");
        return page.substring(start + from.length(), end);
    }
}
