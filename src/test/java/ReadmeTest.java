import java.lang.reflect.Method;
import java.lang.reflect.Modifier;
import java.nio.file.Files;
import java.nio.file.Path;
import java.util.ArrayList;
import java.util.Arrays;
import java.util.List;
import java.util.regex.Matcher;
import java.util.regex.Pattern;

/** README.md tells the truth: its example answers what stands behind each call, and its table has every call. */
public final class ReadmeTest {
    private static final Pattern EXAMPLE = Pattern.compile("(?s)```java\n(.*?)```");
    private static final Pattern CALL = Pattern.compile("marks\\.(\\w+)\\((.*)\\); // (-?\\d+)(: .*)?");
    private static final Pattern NAME = Pattern.compile("`(\\w+)`");
    private static final Check CHECK = new Check("ReadmeTest");

    public static void main(String[] args) throws Exception {
        String readme = Files.readString(Path.of("README.md"));
        Matcher example = EXAMPLE.matcher(readme);
        CHECK.that("an example", example.find());
        runExample(example.group(1).split("\n"));
        checkTable(readme.split("\n"));
        CHECK.finish();
    }

    private static void runExample(String[] lines) throws Exception {
        CHECK.due("first line", lines[0].compareTo("MarkChains marks = new MarkChains();"), 0);
        MarkChains marks = new MarkChains();
        for (int i = 1; i < lines.length; i++) {
            Matcher call = CALL.matcher(lines[i]);
            if (call.matches()) {
                CHECK.due(lines[i], answerOf(marks, call.group(1), call.group(2)), Long.parseLong(call.group(3)));
            } else {
                CHECK.that("a call with its answer: " + lines[i], lines[i].startsWith("// "));
            }
        }
    }

    private static int answerOf(MarkChains marks, String name, String numbers) throws Exception {
        List<Object> given = new ArrayList<>();
        for (String number : numbers.isEmpty() ? new String[0] : numbers.split(", ")) {
            given.add(Integer.decode(number));
        }
        Class<?>[] types = new Class<?>[given.size()];
        Arrays.fill(types, int.class);
        return (Integer) MarkChains.class.getMethod(name, types).invoke(marks, given.toArray());
    }

    private static void checkTable(String[] lines) {
        List<String> named = new ArrayList<>();
        for (String line : lines) {
            if (line.startsWith("| `")) {
                Matcher name = NAME.matcher(line.substring(0, line.indexOf('|', 1)));
                while (name.find()) {
                    named.add(name.group(1));
                }
            }
        }
        List<String> face = new ArrayList<>();
        for (Method method : MarkChains.class.getDeclaredMethods()) {
            if (Modifier.isPublic(method.getModifiers())) {
                face.add(method.getName());
            }
        }
        named.sort(null);
        face.sort(null);
        CHECK.that("the table names " + named + ", the face has " + face, named.equals(face));
    }
}
