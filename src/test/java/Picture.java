import java.util.ArrayList;
import java.util.List;

/**
 * What can be asked of a quiz behind a run of calls. Each part of the questions is asked of an object of its own that
 * has got the same calls, as an object is used for 512 calls at most.
 */
final class Picture {
    private static final int CALLS = 512;
    private static final int LEAST_PART = 100;
    private static final int MOST_UNDOS = 5;

    private Picture() {
    }

    /** Whether there is room for questions behind so many calls. */
    static boolean canFollow(List<Call> calls) {
        return calls.size() + MOST_UNDOS + LEAST_PART <= CALLS;
    }

    static WagerQuiz quizBehind(List<Call> calls) {
        WagerQuiz quiz = new WagerQuiz();
        for (Call call : calls) {
            call.on(quiz);
        }
        return quiz;
    }

    /** The state alone: all but the text, the history, the slots and the reason. */
    static String ofState(List<Call> calls) {
        List<Call> questions = questions(quizBehind(calls));
        StringBuilder seen = new StringBuilder();
        int part = CALLS - calls.size();
        for (int from = 0; from < questions.size(); from += part) {
            WagerQuiz quiz = quizBehind(calls);
            for (Call question : questions.subList(from, Math.min(from + part, questions.size()))) {
                seen.append(question).append('=').append(question.on(quiz)).append(' ');
            }
        }
        return seen.toString();
    }

    /** All there is but the reason: the state, the text, and what undo and the slots would bring back. */
    static String ofAll(List<Call> calls) {
        WagerQuiz quiz = quizBehind(calls);
        int states = quiz.count(12);
        StringBuilder seen = new StringBuilder(ofState(calls));
        seen.append("states ").append(states).append(", length ").append(quiz.count(13));
        List<Call> undone = new ArrayList<>(calls);
        for (int i = 0; i < states; i++) {
            undone.add(Call.of("undo()"));
            seen.append(" undone: ").append(ofState(undone));
        }
        for (String way : List.of("restore(0)", "restore(1)", "runScript()")) {
            List<Call> gone = new ArrayList<>(calls);
            gone.add(Call.of(way));
            seen.append(' ').append(way).append(": ").append(Call.of(way).on(quizBehind(calls)));
            seen.append(' ').append(ofState(gone));
        }
        return seen.toString();
    }

    private static void ask(List<Call> questions, String method, int subject, int kinds) {
        for (int what = 0; what < kinds; what++) {
            questions.add(Call.of(method + "(" + subject + ", " + what + ")"));
        }
    }

    private static List<Call> questions(WagerQuiz quiz) {
        int players = quiz.count(1);
        int entries = quiz.count(5);
        List<Call> questions = new ArrayList<>();
        for (int what = 0; what <= 14; what++) {
            if (what < 11 || what > 13) {
                questions.add(Call.of("count(" + what + ")"));
            }
        }
        for (int player = 0; player < players; player++) {
            ask(questions, "player", player, 8);
            questions.add(Call.of("queued(" + player + ")"));
            questions.add(Call.of("ordered(" + player + ")"));
            questions.add(Call.of("safeWager(" + player + ")"));
        }
        for (int clue = 0; clue < 25; clue++) {
            ask(questions, "clue", clue, 5);
        }
        for (int entry = 0; entry < entries; entry++) {
            ask(questions, "entry", entry, 8);
        }
        return questions;
    }
}
