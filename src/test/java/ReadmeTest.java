import java.io.IOException;
import java.nio.charset.StandardCharsets;
import java.nio.file.Files;
import java.nio.file.Path;
import java.util.HashSet;
import java.util.List;
import java.util.Set;

/**
 * The example of README.md: its lines of Java stand below as they are there,
 * and give what it says that they give.
 */
public final class ReadmeTest {
    public static void main(String[] args) throws IOException {
        String readme = Files.readString(Path.of("README.md"), StandardCharsets.UTF_8);
        codeIsTheSame(block(readme, "```java\n"));
        Check.same("what the example gives", example(), block(readme, "`text` is then\n\n```text\n"));
        Check.end();
    }

    private static String block(String readme, String opening) {
        int begin = readme.indexOf(opening);
        int end = readme.indexOf("```", begin + opening.length());
        return begin < 0 || end < 0 ? "" : readme.substring(begin + opening.length(), end);
    }

    private static void codeIsTheSame(String code) throws IOException {
        Check.same("README.md has an example", code.isEmpty() ? 0 : 1, 1);
        Set<String> here = new HashSet<>();
        List<String> source = Files.readAllLines(Path.of("src/test/java/ReadmeTest.java"), StandardCharsets.UTF_8);
        for (String line : source) {
            here.add(line.strip());
        }
        for (String line : code.split("\n")) {
            Check.same("in the test: " + line, here.contains(line.strip()) ? 1 : 0, 1);
        }
    }

    private static String example() {
        PageFormatter f = new PageFormatter();
        enter(f, ".rm 24");
        enter(f, ".pl 11");
        enter(f, ".he Page #");
        enter(f, ".fo - # -");
        enter(f, ".ti 2");
        enter(f, "Words come in, and the para^graphs");
        enter(f, "are part^ed into lines with the least");
        enter(f, "sum of demerits.");
        f.finish();
        StringBuilder text = new StringBuilder();
        int size = f.length();
        for (int i = 0; i < size; i++) {
            text.append((char) f.at(i));
        }
        return text.toString();
    }

    static int enter(PageFormatter f, String line) {
        for (int i = 0; i < line.length(); i += 8) {
            int n = Math.min(8, line.length() - i);
            long w = 0;
            for (int k = n - 1; k >= 0; k--) {
                w = w << 8 | line.charAt(i + k);
            }
            f.type(w, n);
        }
        return f.enter();
    }
}
