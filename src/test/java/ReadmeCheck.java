import java.io.IOException;
import java.nio.file.Files;
import java.nio.file.Path;
import java.util.ArrayList;
import java.util.List;
import java.util.regex.Matcher;
import java.util.regex.Pattern;

/** The examples of README.md: each call there answers what stands behind it. */
public final class ReadmeCheck {
    private static final Path PAGE = Path.of("README.md");
    private static final Pattern MADE = Pattern.compile("KeptParts x = new KeptParts\\((-?\\d+)\\);(\\s+//.*)?");
    /** The method, its numbers, and the answer: what stands up to a colon or the line's end. */
    private static final Pattern CALL = Pattern.compile("x\\.(\\w+)\\((.*?)\\);\\s+// (throws )?([-\\w]+)(:.*)?");

    private ReadmeCheck() {
    }

    public static void main(String[] args) throws IOException {
        Run run = null;
        for (String line : exampleLines()) {
            Matcher made = MADE.matcher(line);
            Matcher call = CALL.matcher(line);
            if (made.matches()) {
                run = new Run("README.md", Integer.parseInt(made.group(1)));
            } else if (run != null && call.matches()) {
                String answer = (call.group(3) == null ? "" : "throws.") + call.group(4);
                run.due(answer, call.group(1), numbers(call.group(2)));
            } else {
                throw new IllegalStateException("README.md has an example that is no call with its answer: " + line);
            }
        }
        Run.end("README.md");
    }

    /** All lines between "```java" and "```". */
    private static List<String> exampleLines() throws IOException {
        List<String> found = new ArrayList<>();
        boolean inExample = false;
        for (String line : Files.readAllLines(PAGE)) {
            if (line.startsWith("```")) {
                inExample = line.equals("```java");
            } else if (inExample) {
                found.add(line);
            }
        }
        return found;
    }

    private static int[] numbers(String text) {
        if (text.isEmpty()) {
            return new int[0];
        }
        String[] words = text.split(", ");
        int[] numbers = new int[words.length];
        for (int i = 0; i < words.length; i++) {
            numbers[i] = Integer.parseInt(words[i]);
        }
        return numbers;
    }
}
