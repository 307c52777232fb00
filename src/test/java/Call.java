import java.lang.reflect.InvocationTargetException;
import java.lang.reflect.Method;
import java.util.HashMap;
import java.util.List;
import java.util.Map;
import java.util.Set;
import java.util.regex.Matcher;
import java.util.regex.Pattern;

/** A call of a method of WagerQuiz, read from its text, as in "pick(0, 7)". */
final class Call {
    private static final Pattern FORM = Pattern.compile("(\\w+)\\((.*)\\)");
    private static final Set<String> ACTS = Set.of("addPlayer", "setWagerClue", "set", "pick", "buzz", "answer",
            "close", "wager", "beginFinal", "wagerFinal", "correct", "rejudge", "runScript", "restore");
    private static final Set<String> CHANGES_BESIDE = Set.of("type", "clearText", "undo", "keep");
    private static final Map<String, Method> METHODS = new HashMap<>();

    static {
        for (Method method : WagerQuiz.class.getMethods()) {
            METHODS.put(method.getName(), method);
        }
    }

    private final String text;
    private final Method method;
    private final Object[] arguments;

    private Call(String text, Method method, Object[] arguments) {
        this.text = text;
        this.method = method;
        this.arguments = arguments;
    }

    static Call of(String text) {
        Matcher form = FORM.matcher(text);
        if (!form.matches() || !METHODS.containsKey(form.group(1))) {
            throw new IllegalArgumentException("this is no call: " + text);
        }
        Method method = METHODS.get(form.group(1));
        Class<?>[] types = method.getParameterTypes();
        String[] words = form.group(2).isEmpty() ? new String[0] : form.group(2).split(",");
        if (words.length != types.length) {
            throw new IllegalArgumentException("the number of arguments is wrong: " + text);
        }
        Object[] arguments = new Object[types.length];
        for (int i = 0; i < types.length; i++) {
            arguments[i] = argument(types[i], words[i].trim());
        }
        return new Call(text, method, arguments);
    }

    static Call type(char sign) {
        return of("type(" + (int) sign + ")");
    }

    private static Object argument(Class<?> type, String word) {
        if (type == boolean.class && List.of("true", "false").contains(word)) {
            return Boolean.valueOf(word);
        }
        if (type == char.class) {
            return word.matches("'.'") ? word.charAt(1) : (char) Integer.parseInt(word);
        }
        return switch (word) {
            case "MIN" -> Integer.MIN_VALUE;
            case "MAX" -> Integer.MAX_VALUE;
            default -> Integer.valueOf(word);
        };
    }

    int on(WagerQuiz quiz) {
        try {
            return (int) method.invoke(quiz, arguments);
        } catch (IllegalAccessException | InvocationTargetException e) {
            throw new IllegalStateException(text + " threw", e);
        }
    }

    /** A method that the document describes as an act. */
    boolean isAct() {
        return ACTS.contains(method.getName());
    }

    /** A method that tells something and changes nothing, whatever it answers. */
    boolean isQuestion() {
        return !isAct() && !CHANGES_BESIDE.contains(method.getName());
    }

    /** Its moves may be refused, though it answers with their number. */
    boolean isScript() {
        return method.getName().equals("runScript");
    }

    @Override
    public String toString() {
        return text;
    }
}
