import java.util.ArrayList;
import java.util.List;
import java.util.Map;
import java.util.regex.Matcher;
import java.util.regex.Pattern;

/**
 * A run of calls on a new object, read row by row from a file of src/test/edges. Beside the answers that the rows tell,
 * each call is held to the document's laws for all calls: what an error, a question or an act may change.
 */
final class EdgeRun {
    static final Map<String, Integer> CONSTANTS = Map.of("UNKNOWN", -10000001, "BAD_VALUE", -10000002,
            "REFUSED", -10000003, "FULL", -10000004, "NONE", -10000005);
    private static final int REFUSED = -10000003;
    private static final Pattern LOOP = Pattern.compile("each (\\w+) from (\\d+) to (\\d+): (.*)");
    private static final Pattern TIMES = Pattern.compile("(\\d+) x (.*)");
    private static final Pattern PLAYERS = Pattern.compile("players (\\d)");
    private static final Pattern TEXT = Pattern.compile("(type|run) \"(.*?)\"(?: = (\\S+))?");
    private static final Pattern MESSAGE = Pattern.compile("message = \"(.*)\"");
    private static final Pattern ROW = Pattern.compile("(\\w+\\(.*?\\))(?: = (\\S+)(?: (\\d))?)?");
    private static final int CALLS = 512;

    private final String title;
    private final Check check;
    private final WagerQuiz quiz = new WagerQuiz();
    private final List<Call> calls = new ArrayList<>();
    private String row = "";

    EdgeRun(String title, Check check) {
        this.title = title;
        this.check = check;
    }

    /** Plays a line: rows between slashes, at times with a counter in front. */
    void line(String line) {
        Matcher loop = LOOP.matcher(line);
        if (!loop.matches()) {
            rows(line);
            return;
        }
        int last = Integer.parseInt(loop.group(3));
        for (int i = Integer.parseInt(loop.group(2)); i <= last; i++) {
            rows(loop.group(4).replaceAll("\\b" + loop.group(1) + "\\b", Integer.toString(i)));
        }
    }

    void end() {
        check.holds(title + ": at most " + CALLS + " calls, not " + calls.size(), calls.size() <= CALLS);
    }

    private void rows(String line) {
        for (String part : line.split(" / ")) {
            row = part.trim();
            Matcher times = TIMES.matcher(row);
            int count = times.matches() ? Integer.parseInt(times.group(1)) : 1;
            String once = times.matches() ? times.group(2) : row;
            for (int i = 0; i < count; i++) {
                play(once);
            }
        }
    }

    private void play(String text) {
        Matcher players = PLAYERS.matcher(text);
        Matcher typed = TEXT.matcher(text);
        Matcher message = MESSAGE.matcher(text);
        Matcher called = ROW.matcher(text);
        if (players.matches()) {
            for (int i = 0; i < Integer.parseInt(players.group(1)); i++) {
                due(perform(Call.of("addPlayer()")), Integer.toString(i));
            }
        } else if (typed.matches()) {
            typeAndRun(typed.group(1).equals("run"), typed.group(2), typed.group(3));
        } else if (message.matches()) {
            read(message.group(1));
        } else if (called.matches()) {
            due(perform(Call.of(called.group(1))), called.group(2));
            if (called.group(3) != null) {
                due(perform(Call.of("count(11)")), called.group(3));
            }
        } else {
            throw new IllegalArgumentException("this is no row: " + text);
        }
    }

    private void typeAndRun(boolean run, String text, String due) {
        if (run) {
            perform(Call.of("clearText()"));
        }
        for (int i = 0; i < text.length(); i++) {
            perform(Call.type(text.charAt(i)));
        }
        if (run) {
            due(perform(Call.of("runScript()")), due);
        }
    }

    private void read(String message) {
        StringBuilder read = new StringBuilder();
        for (int i = 0; i < message.length(); i++) {
            int answer = perform(Call.of("messageAt(" + i + ")"));
            read.append(answer >= 0 ? (char) answer : '?');
        }
        check.holds(title + ": " + row + " read '" + read + "'", read.toString().equals(message));
        due(perform(Call.of("messageAt(" + message.length() + ")")), "NONE");
    }

    private void due(int answer, String due) {
        if (due != null) {
            int want = CONSTANTS.containsKey(due) ? CONSTANTS.get(due) : Integer.parseInt(due);
            check.due(title + ": " + row + ", call " + calls.size(), answer, want);
        }
    }

    private int perform(Call call) {
        List<Call> before = List.copyOf(calls);
        int answer = call.on(quiz);
        calls.add(call);
        if (Picture.canFollow(calls)) {
            law(before, call, answer);
        }
        return answer;
    }

    private void law(List<Call> before, Call call, int answer) {
        String where = title + ": " + call + ", call " + calls.size();
        WagerQuiz earlier = Picture.quizBehind(before);
        WagerQuiz later = Picture.quizBehind(calls);
        if (answer != REFUSED && !call.isScript()) {
            check.due(where + ": the reason stays", later.count(11), earlier.count(11));
        }
        if (CONSTANTS.containsValue(answer) && !call.isQuestion()) {
            check.holds(where + ": it changes nothing", Picture.ofAll(calls).equals(Picture.ofAll(before)));
        } else if (call.isQuestion()) {
            check.due(where + ": the history stays", later.count(12), earlier.count(12));
            check.due(where + ": the text stays", later.count(13), earlier.count(13));
            check.holds(where + ": it changes nothing", Picture.ofState(calls).equals(Picture.ofState(before)));
        } else if (call.isAct() && !(call.isScript() && answer <= -100)) {
            check.due(where + ": it is recorded", later.count(12), Math.min(5, earlier.count(12) + 1));
            List<Call> undone = new ArrayList<>(calls);
            undone.add(Call.of("undo()"));
            check.holds(where + ": it is undone", Picture.ofState(undone).equals(Picture.ofState(before)));
        }
    }
}
