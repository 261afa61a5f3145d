import java.io.IOException;
import java.lang.reflect.Method;
import java.lang.reflect.Modifier;
import java.nio.file.Files;
import java.nio.file.Path;
import java.util.HashMap;
import java.util.List;
import java.util.Map;
import java.util.regex.Matcher;
import java.util.regex.Pattern;

/** README.md shows how to use the class: its example answers as it says, and it names every call of the face. */
public final class ReadmeTest {
    private static final Pattern TEXT = Pattern.compile("String text = \"([^\"]*)\";.*");
    private static final Pattern CALL = Pattern.compile("x\\.(\\w+)\\(([-\\d, ]*)\\);\\s*// (-?\\d+).*");
    /** The lines that write a TEXT; Due.write() does the same here. */
    private static final List<String> WRITING = List.of(
        "PawnLane x = new PawnLane();", "x.text(0, text.length());", "for (int i = 0; i < text.length(); i++) {",
        "x.put(0, i, text.charAt(i));", "}");
    private static final int FEWEST_CALLS = 15;

    private static final Due due = new Due("ReadmeTest");
    private static final Map<String, Method> face = new HashMap<>();

    public static void main(String[] args) throws IOException, ReflectiveOperationException {
        for (Method m : PawnLane.class.getDeclaredMethods()) {
            if (Modifier.isPublic(m.getModifiers())) {
                face.put(m.getName(), m);
            }
        }
        String readme = Files.readString(Path.of("README.md"));
        example(readme);
        for (String name : face.keySet()) {
            due.holds("README.md names " + name + "()", Pattern.compile("`" + name + "\\([^`]*\\)`").matcher(readme).find());
        }
        due.holds("README.md says how to run the tests", readme.contains("    .ci/run\n"));
        due.end();
    }

    private static void example(String readme) throws ReflectiveOperationException {
        int start = readme.indexOf("```java\n");
        int end = readme.indexOf("\n```\n", start);
        due.holds("README.md has an example", start >= 0 && end > start);
        PawnLane x = new PawnLane();
        int calls = 0;
        for (String line : readme.substring(start + "```java\n".length(), end).split("\n")) {
            Matcher text = TEXT.matcher(line);
            Matcher call = CALL.matcher(line.trim());
            if (text.matches()) {
                Due.write(x, 0, text.group(1));
            } else if (call.matches()) {
                due.is("README.md: " + line, answer(x, call), Long.parseLong(call.group(3)));
                calls++;
            } else {
                due.holds("README.md: '" + line + "' is understood", WRITING.contains(line.replaceAll("//.*", "").trim()));
            }
        }
        due.holds("README.md shows " + calls + " answers", calls >= FEWEST_CALLS);
    }

    private static long answer(PawnLane x, Matcher call) throws ReflectiveOperationException {
        String[] words = call.group(2).isBlank() ? new String[0] : call.group(2).split(",");
        Object[] args = new Object[words.length];
        for (int i = 0; i < args.length; i++) {
            args[i] = Integer.parseInt(words[i].trim());
        }
        return ((Number) face.get(call.group(1)).invoke(x, args)).longValue();
    }
}
