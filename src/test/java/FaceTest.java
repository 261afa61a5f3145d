import java.io.IOException;
import java.lang.reflect.Constructor;
import java.lang.reflect.Field;
import java.lang.reflect.Method;
import java.lang.reflect.Modifier;
import java.nio.file.Files;
import java.nio.file.Path;
import java.util.Arrays;
import java.util.Set;
import java.util.TreeSet;
import java.util.regex.Matcher;
import java.util.regex.Pattern;

/** The public face is the document's and no more, and the source keeps to what LANGUAGE.md leaves. */
public final class FaceTest {
    private static final String SOURCE = "src/main/java/PawnLane.java";
    private static final String[] INTS = {
        "row 2", "lay 3", "at 2", "tear 1", "copy 5", "mean 1", "text 2", "put 3", "fault 1", "lane 1", "shop 2",
        "mark 2", "stock 2", "redeem 1", "pawn 3", "week 0", "give 2", "undo 1", "keep 1", "on 1", "deep 1", "inside 1",
        "rings 0", "goods 1", "hangs 0", "worth 1", "chalk 2", "can 0", "order 1", "ways 0", "most 0", "least 0",
        "free 2", "till 0", "run 1", "shuts 1", "missing 1", "through 1", "odds 1", "lots 2", "asked 0", "count 1",
        "finding 0", "findings 1"};
    private static final String[] LONGS = {"upper 0", "lower 0", "digest 0"};
    private static final String[] FORBIDDEN = {
        "\\bthrow\\b", "\\bthrows\\b", "\\btry\\b", "\\bcatch\\b", "\\bsynchronized\\b", "\\bassert\\b", "->", "::",
        "static\\s*\\{", "Exact\\b", "\\bprotected\\b", "\\bpackage\\b", "\\bSystem\\.(?!arraycopy)", "\\bvar\\b",
        "\\bdouble\\b", "\\bfloat\\b", "\\bhashCode\\b", "\\btoString\\b"};
    /** What is called of Java's own library; LANGUAGE.md, rule 4, lists each. */
    private static final Set<String> LIBRARY = Set.of(
        "Integer.bitCount", "Integer.numberOfTrailingZeros", "Math.max", "Math.min", "Arrays.fill", "System.arraycopy");
    private static final int LONGEST_METHOD = 60, MOST_PARAMETERS = 7, MOST_CLASSES = 12, MOST_FIELDS = 20;

    private static final Due due = new Due("FaceTest");

    public static void main(String[] args) throws IOException {
        constants();
        face();
        classes();
        source();
        due.end();
    }

    private static void constants() {
        due.is("BAD", PawnLane.BAD, -1);
        due.is("FULL", PawnLane.FULL, -2);
        due.is("FINDING", PawnLane.FINDING, -3);
        due.is("STATE", PawnLane.STATE, -4);
        due.is("SPENT", PawnLane.SPENT, -6);
        due.is("NONE", PawnLane.NONE, -9);
    }

    private static void face() {
        Set<String> want = new TreeSet<>();
        Arrays.asList(INTS).forEach(m -> want.add("int " + m));
        Arrays.asList(LONGS).forEach(m -> want.add("long " + m));
        Set<String> names = new TreeSet<>();
        Set<String> got = new TreeSet<>();
        for (Method m : PawnLane.class.getDeclaredMethods()) {
            if (Modifier.isPublic(m.getModifiers())) {
                got.add(m.getReturnType() + " " + m.getName() + " " + m.getParameterCount());
                names.add(m.getName());
                due.holds(m + " takes ints", Arrays.stream(m.getParameterTypes()).allMatch(p -> p == int.class));
            }
        }
        due.holds("the methods are the document's: " + got, got.equals(want));
        for (Method m : PawnLane.class.getDeclaredMethods()) {
            boolean open = Modifier.isPublic(m.getModifiers());
            due.holds(m + " is public or private", open || Modifier.isPrivate(m.getModifiers()));
            due.holds(m + ": no private one bears a public name", open || !names.contains(m.getName()));
        }
        Constructor<?>[] made = PawnLane.class.getDeclaredConstructors();
        due.holds("one public constructor", made.length == 1 && Modifier.isPublic(made[0].getModifiers()));
        due.holds("final", Modifier.isFinal(PawnLane.class.getModifiers()));
        int open = 0;
        for (Field f : PawnLane.class.getDeclaredFields()) {
            open += Modifier.isPublic(f.getModifiers()) ? 1 : 0;
            due.holds(f + " is public or private",
                Modifier.isPublic(f.getModifiers()) || Modifier.isPrivate(f.getModifiers()));
        }
        due.is("public fields", open, 6);
    }

    private static void classes() {
        Class<?>[] inside = PawnLane.class.getDeclaredClasses();
        due.holds("few classes", inside.length < MOST_CLASSES);
        for (Class<?> c : inside) {
            due.holds(c + " is static", Modifier.isStatic(c.getModifiers()));
            due.holds(c + " is not public", !Modifier.isPublic(c.getModifiers()));
            due.holds(c + " has few fields", ownFields(c) <= MOST_FIELDS);
            for (Method m : c.getDeclaredMethods()) {
                due.holds(m + ": parameters", m.getParameterCount() <= MOST_PARAMETERS);
            }
        }
        due.holds("PawnLane has few fields", ownFields(PawnLane.class) <= MOST_FIELDS);
    }

    private static int ownFields(Class<?> c) {
        int n = 0;
        for (Field f : c.getDeclaredFields()) {
            due.holds(f + ": static is final",
                !Modifier.isStatic(f.getModifiers()) || Modifier.isFinal(f.getModifiers()));
            n += Modifier.isStatic(f.getModifiers()) ? 0 : 1;
        }
        return n;
    }

    private static void source() throws IOException {
        String code = Files.readString(Path.of(SOURCE)).replaceAll("(?s)/\\*.*?\\*/", "").replaceAll("//[^\n]*", "");
        for (String word : FORBIDDEN) {
            due.holds("source without " + word, !Pattern.compile(word).matcher(code).find());
        }
        Matcher call = Pattern.compile("\\b([A-Z]\\w*\\.\\w+)\\(").matcher(code);
        while (call.find()) {
            due.holds("the library's " + call.group(1), LIBRARY.contains(call.group(1)));
        }
        int start = -1;
        String[] lines = Files.readString(Path.of(SOURCE)).split("\n");
        for (int i = 0; i < lines.length; i++) {
            due.holds("line " + (i + 1) + " in ASCII", lines[i].chars().allMatch(c -> c < 128));
            if (lines[i].startsWith("import ")) {
                due.holds(lines[i], lines[i].equals("import java.util.Arrays;"));
            }
            if (lines[i].matches(" {4,8}\\w[^=;]*\\) \\{") && !lines[i].trim().startsWith("for")) {
                start = i;
            }
            if (start >= 0 && lines[i].matches(" {4,8}\\}")) {
                due.holds("the method at line " + (start + 1) + " is short", i - start < LONGEST_METHOD);
                start = -1;
            }
        }
    }
}
