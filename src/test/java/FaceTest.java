import java.lang.reflect.Constructor;
import java.lang.reflect.Field;
import java.lang.reflect.Method;
import java.lang.reflect.Modifier;
import java.nio.file.Files;
import java.nio.file.Path;
import java.util.List;
import java.util.TreeSet;
import java.util.regex.Pattern;

/** The public face is the document's, no more and no less, and the source keeps to plain rules of the language. */
public final class FaceTest {
    private static final String[] FACE = {
        "feed 5", "end 1", "text 0", "needs 0", "fault 0", "is 1", "mark 2", "told 3", "good 1", "ratify 1",
        "strike 1", "ban 3", "paper 2", "days 1", "within 2", "chain 4", "record 3", "holders 3", "ties 3",
        "held 4", "stood 4", "altered 4", "list 4", "rank 2", "wished 3", "would 1", "score 0", "points 1",
        "champion 2", "table 2", "placed 1", "duel 2", "progress 4", "since 2", "without 3", "acts 0",
        "ended 0", "row 1", "personal 3", "season 3", "at 4", "missing 1", "stands 2", "holding 1",
        "drought 3", "back 0", "write 3", "octet 1"
    };
    private static final List<String> FORBIDDEN = List.of(
        "\\bthrow\\b", "\\btry\\b", "\\bcatch\\b", "\\bsynchronized\\b", "\\bassert\\b", "->", "::",
        "\\bhashCode\\b", "\\btoString\\b", "Exact\\b", "\\bpackage\\b", "System\\.(?!arraycopy)", "\\bstatic\\s*\\{");

    public static void main(String[] args) throws Exception {
        Check check = new Check("FaceTest");
        TreeSet<String> wanted = new TreeSet<>(List.of(FACE));
        TreeSet<String> found = new TreeSet<>();
        TreeSet<String> privates = new TreeSet<>();
        for (Method method : MarkChains.class.getDeclaredMethods()) {
            if (Modifier.isPrivate(method.getModifiers())) {
                privates.add(method.getName());
                continue;
            }
            found.add(method.getName() + " " + method.getParameterCount());
            check.that("public int " + method, Modifier.isPublic(method.getModifiers())
                && !Modifier.isStatic(method.getModifiers()) && method.getReturnType() == int.class);
            for (Class<?> type : method.getParameterTypes()) {
                check.that("int parameters " + method, type == int.class);
            }
        }
        check.that("methods " + found, found.equals(wanted));
        for (String one : FACE) {
            check.that("no private " + one, !privates.contains(one.split(" ")[0]));
        }
        for (Field field : MarkChains.class.getDeclaredFields()) {
            check.that("private field " + field, Modifier.isPrivate(field.getModifiers()) || field.getName().equals("NONE"));
        }
        Field none = MarkChains.class.getDeclaredField("NONE");
        check.that("NONE is a public constant", Modifier.isPublic(none.getModifiers())
            && Modifier.isStatic(none.getModifiers()) && Modifier.isFinal(none.getModifiers()) && none.getInt(null) == -1);
        Constructor<?>[] makers = MarkChains.class.getDeclaredConstructors();
        check.that("one public constructor", makers.length == 1 && makers[0].getParameterCount() == 0
            && Modifier.isPublic(makers[0].getModifiers()));
        check.that("public final class", Modifier.isPublic(MarkChains.class.getModifiers())
            && Modifier.isFinal(MarkChains.class.getModifiers()));
        for (Class<?> inner : MarkChains.class.getDeclaredClasses()) {
            check.that("static " + inner, Modifier.isStatic(inner.getModifiers()));
        }
        checkSource(check);
        check.finish();
    }

    private static void checkSource(Check check) throws Exception {
        String source = Files.readString(Path.of("src/main/java/MarkChains.java"));
        String code = source.replaceAll("(?s)/\\*.*?\\*/", " ").replaceAll("//[^\n]*", " ");
        for (String word : FORBIDDEN) {
            check.that("source without " + word, !Pattern.compile(word).matcher(code).find());
        }
        for (String line : code.split("\n")) {
            if (line.startsWith("import")) {
                check.that(line, line.matches("import java\\.util\\.(Arrays|ArrayList|List);"));
            }
        }
    }
}
