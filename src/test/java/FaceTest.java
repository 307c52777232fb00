import java.io.IOException;
import java.lang.reflect.Constructor;
import java.lang.reflect.Field;
import java.lang.reflect.Member;
import java.lang.reflect.Method;
import java.lang.reflect.Modifier;
import java.nio.charset.StandardCharsets;
import java.nio.file.Files;
import java.nio.file.Path;
import java.util.Arrays;
import java.util.Set;
import java.util.TreeSet;
import java.util.regex.Pattern;
import java.util.stream.Collectors;

/** The class's face, and those rules of LANGUAGE.md that can be read from the class or its file. */
public final class FaceTest {
    private static final Check CHECK = new Check();
    private static final Set<String> FACE = new TreeSet<>(Set.of(
            "UNKNOWN", "BAD_VALUE", "REFUSED", "FULL", "NONE",
            "addPlayer()", "setWagerClue(int, boolean)", "set(int, int)", "pick(int, int)", "buzz(int, int)",
            "answer(boolean)", "close()", "wager(int)", "beginFinal()", "wagerFinal(int, int)", "safeWager(int)",
            "correct(int, int)", "rejudge(int)", "type(char)", "clearText()", "runScript()", "undo()", "keep(int)",
            "restore(int)", "player(int, int)", "ordered(int)", "queued(int)", "clue(int, int)", "entry(int, int)",
            "count(int)", "messageAt(int)"));

    public static void main(String[] args) throws IOException {
        constants();
        face();
        privateNames();
        nestedClasses();
        words();
        CHECK.finish();
    }

    private static void constants() {
        CHECK.due("UNKNOWN", WagerQuiz.UNKNOWN, -10000001);
        CHECK.due("BAD_VALUE", WagerQuiz.BAD_VALUE, -10000002);
        CHECK.due("REFUSED", WagerQuiz.REFUSED, -10000003);
        CHECK.due("FULL", WagerQuiz.FULL, -10000004);
        CHECK.due("NONE", WagerQuiz.NONE, -10000005);
    }

    private static String signature(Method method) {
        return method.getName() + Arrays.stream(method.getParameterTypes()).map(Class::getName)
                .collect(Collectors.joining(", ", "(", ")"));
    }

    private static void face() {
        Set<String> seen = new TreeSet<>();
        for (Field field : WagerQuiz.class.getDeclaredFields()) {
            if (!Modifier.isPrivate(field.getModifiers())) {
                seen.add(field.getName());
                CHECK.holds(field + " is a constant", field.toString().startsWith("public static final int "));
            }
        }
        for (Method method : WagerQuiz.class.getDeclaredMethods()) {
            if (!Modifier.isPrivate(method.getModifiers())) {
                seen.add(signature(method));
                CHECK.holds(method + " is of the face", method.toString().startsWith("public int "));
            }
        }
        CHECK.holds("the face is that of the document: " + seen, seen.equals(FACE));
        Constructor<?>[] constructors = WagerQuiz.class.getDeclaredConstructors();
        CHECK.holds("one public constructor without arguments", constructors.length == 1
                && constructors[0].toString().equals("public WagerQuiz()"));
        CHECK.holds("a public final class", WagerQuiz.class.getModifiers() == (Modifier.PUBLIC | Modifier.FINAL));
    }

    private static boolean isOfFace(Member member) {
        return FACE.stream().anyMatch(face -> face.startsWith(member.getName() + "("));
    }

    private static void privateNames() {
        for (Method method : WagerQuiz.class.getDeclaredMethods()) {
            CHECK.holds(method + " bears no public name", Modifier.isPublic(method.getModifiers()) || !isOfFace(method));
            CHECK.holds(method + " has at most seven parameters", method.getParameterCount() <= 7);
        }
    }

    private static void nestedClasses() {
        Class<?>[] nested = WagerQuiz.class.getDeclaredClasses();
        CHECK.holds("at most twelve classes", nested.length < 12);
        for (Class<?> inside : nested) {
            CHECK.holds(inside + " is static", Modifier.isStatic(inside.getModifiers()));
            CHECK.holds(inside + " is not public", !Modifier.isPublic(inside.getModifiers()));
            for (Method method : inside.getDeclaredMethods()) {
                CHECK.holds(method + " bears no public name", !isOfFace(method));
            }
        }
        for (Field field : WagerQuiz.class.getDeclaredFields()) {
            CHECK.holds(field + " is final if it is static", !Modifier.isStatic(field.getModifiers())
                    || Modifier.isFinal(field.getModifiers()));
        }
    }

    private static void words() throws IOException {
        String source = Files.readString(Path.of("src/main/java/WagerQuiz.java"), StandardCharsets.UTF_8);
        String code = source.replaceAll("(?s)/\\*.*?\\*/|//[^\n]*", "").replaceAll("\"[^\"\n]*\"", "\"\"");
        String[] banned = {"\\bthrow\\b", "\\bthrows\\b", "\\btry\\b", "\\bcatch\\b", "\\bsynchronized\\b",
            "\\bassert\\b", "->", "::", "\\bimport\\b", "\\bpackage\\b", "\\bprotected\\b", "\\bequals\\b",
            "\\bhashCode\\b", "\\btoString\\b", "Exact\\b", "\\bnative\\b", "\"\\s*\\+", "\\+\\s*\""};
        for (String pattern : banned) {
            CHECK.holds("no " + pattern, !Pattern.compile(pattern).matcher(code).find());
        }
        CHECK.holds("plain signs", source.chars().allMatch(sign -> sign < 128));
    }
}
