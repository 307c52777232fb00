/** Promises 1 to 4: a new object, addPlayer, setWagerClue, set. */
public final class PlayersAndBoardTest {
    private static final Check CHECK = new Check();

    public static void main(String[] args) {
        newObject();
        objectsStandAlone();
        addPlayer();
        addPlayerBehindPick();
        addPlayerInOtherPhases();
        setWagerClue();
        setWagerClueBehindPick();
        set();
        settingsAreTakenWhenPicked();
        stealIsTakenWhenAnswered();
        CHECK.finish();
    }

    private static void newObject() {
        WagerQuiz quiz = new WagerQuiz();
        long[] due = {0, 0, 25, Check.NONE, Check.NONE, 0, 0, 0, 10, 5, 50, 0, 0, 0, Check.NONE};
        for (int what = 0; what < due.length; what++) {
            CHECK.due("new: count(" + what + ")", quiz.count(what), due[what]);
        }
        for (int clue = 0; clue < 25; clue++) {
            CHECK.due("new: clue(" + clue + ", 1)", quiz.clue(clue, 1), 0);
            CHECK.due("new: clue(" + clue + ", 2)", quiz.clue(clue, 2), 0);
            CHECK.due("new: clue(" + clue + ", 3)", quiz.clue(clue, 3), 0);
            CHECK.due("new: clue(" + clue + ", 4)", quiz.clue(clue, 4), Check.NONE);
        }
        CHECK.due("new: restore(0)", quiz.restore(0), Check.NONE);
        CHECK.due("new: restore(1)", quiz.restore(1), Check.NONE);
        CHECK.due("new: undo", quiz.undo(), Check.NONE);
        CHECK.due("new: ordered(0)", quiz.ordered(0), Check.NONE);
        CHECK.due("new: queued(0)", quiz.queued(0), Check.NONE);
        CHECK.due("new: player(0, 0)", quiz.player(0, 0), Check.UNKNOWN);
        CHECK.due("new: entry(0, 0)", quiz.entry(0, 0), Check.UNKNOWN);
    }

    private static void objectsStandAlone() {
        WagerQuiz first = Quizzes.withPlayers(2);
        first.set(1, 7);
        first.type('n');
        WagerQuiz second = new WagerQuiz();
        CHECK.due("second: players", second.count(1), 0);
        CHECK.due("second: lock", second.count(9), 5);
        CHECK.due("second: text", second.count(13), 0);
        CHECK.due("first: lock", first.count(9), 7);
    }

    private static void addPlayer() {
        WagerQuiz quiz = new WagerQuiz();
        for (int player = 0; player < 6; player++) {
            CHECK.due("addPlayer", quiz.addPlayer(), player);
            CHECK.due("players", quiz.count(1), player + 1);
            CHECK.due("score of the new one", quiz.player(player, 0), 0);
        }
        CHECK.due("history is full", quiz.count(12), 5);
        CHECK.due("addPlayer of the seventh", quiz.addPlayer(), Check.FULL);
        CHECK.due("players stay", quiz.count(1), 6);
        CHECK.due("FULL sets no reason", quiz.count(11), 0);
        quiz.undo();
        CHECK.due("FULL is not recorded", quiz.count(1), 5);
    }

    private static void addPlayerBehindPick() {
        WagerQuiz quiz = Quizzes.withPlayers(6);
        quiz.pick(0, 0);
        quiz.close();
        CHECK.refused("addPlayer behind a pick, ahead of FULL", quiz, quiz.addPlayer(), 1);
        WagerQuiz other = Quizzes.withPlayers(1);
        other.pick(0, 0);
        CHECK.refused("addPlayer under a pick", other, other.addPlayer(), 1);
        other.undo();
        CHECK.due("addPlayer when the pick is undone", other.addPlayer(), 1);
    }

    private static void addPlayerInOtherPhases() {
        WagerQuiz quiz = Quizzes.withPlayers(1);
        quiz.beginFinal();
        CHECK.due("the quiz is over without a pick", quiz.count(0), 6);
        CHECK.refused("addPlayer in phase 6", quiz, quiz.addPlayer(), 1);
        CHECK.refused("setWagerClue in phase 6", quiz, quiz.setWagerClue(0, true), 1);
        WagerQuiz running = Quizzes.withScores(100);
        running.beginFinal();
        CHECK.refused("addPlayer in phase 4", running, running.addPlayer(), 1);
        CHECK.refused("setWagerClue in phase 4", running, running.setWagerClue(0, true), 1);
        WagerQuiz corrected = Quizzes.withScores(100);
        CHECK.due("addPlayer behind a correction", corrected.addPlayer(), 1);
    }

    private static void setWagerClue() {
        WagerQuiz quiz = new WagerQuiz();
        CHECK.due("setWagerClue(0, false)", quiz.setWagerClue(0, false), Check.NONE);
        CHECK.due("NONE is not recorded", quiz.count(12), 0);
        CHECK.due("setWagerClue(0, true)", quiz.setWagerClue(0, true), 1);
        CHECK.due("setWagerClue(24, true)", quiz.setWagerClue(24, true), 2);
        CHECK.due("setWagerClue(24, true) again", quiz.setWagerClue(24, true), Check.NONE);
        CHECK.due("clue(0, 1)", quiz.clue(0, 1), 1);
        CHECK.due("clue(1, 1)", quiz.clue(1, 1), 0);
        CHECK.due("clue(24, 1)", quiz.clue(24, 1), 1);
        CHECK.due("setWagerClue(0, false)", quiz.setWagerClue(0, false), 1);
        CHECK.due("clue(0, 1)", quiz.clue(0, 1), 0);
        CHECK.due("acts", quiz.count(12), 3);
        CHECK.due("setWagerClue(-1, true)", quiz.setWagerClue(-1, true), Check.UNKNOWN);
        CHECK.due("setWagerClue(25, true)", quiz.setWagerClue(25, true), Check.UNKNOWN);
        CHECK.due("no reason", quiz.count(11), 0);
        for (int clue = 0; clue < 24; clue++) {
            CHECK.due("setWagerClue of each", quiz.setWagerClue(clue, true), clue + 2);
        }
    }

    private static void setWagerClueBehindPick() {
        WagerQuiz quiz = Quizzes.withPlayers(1);
        quiz.pick(0, 3);
        CHECK.refused("setWagerClue under a pick", quiz, quiz.setWagerClue(4, true), 1);
        quiz.close();
        CHECK.refused("setWagerClue behind a pick", quiz, quiz.setWagerClue(4, true), 1);
        CHECK.refused("REFUSED ahead of NONE", quiz, quiz.setWagerClue(4, false), 1);
        CHECK.due("UNKNOWN ahead of REFUSED", quiz.setWagerClue(25, true), Check.UNKNOWN);
    }

    private static void set() {
        WagerQuiz quiz = new WagerQuiz();
        int[] first = {10, 5, 50};
        int[] top = {30, 30, 100};
        for (int what = 0; what < 3; what++) {
            CHECK.due("set " + what + " to its top", quiz.set(what, top[what]), first[what]);
            CHECK.due("set " + what + " to 0", quiz.set(what, 0), top[what]);
            CHECK.due("set " + what + " to 0 again", quiz.set(what, 0), 0);
            CHECK.due("set " + what + " beyond", quiz.set(what, top[what] + 1), Check.BAD_VALUE);
            CHECK.due("set " + what + " below", quiz.set(what, -1), Check.BAD_VALUE);
            CHECK.due("setting " + what, quiz.count(8 + what), 0);
        }
        CHECK.due("set to the same is an act", quiz.count(12), 5);
        CHECK.due("set(-1, 0)", quiz.set(-1, 0), Check.UNKNOWN);
        CHECK.due("set(3, 0)", quiz.set(3, 0), Check.UNKNOWN);
        CHECK.due("UNKNOWN ahead of BAD_VALUE", quiz.set(3, -1), Check.UNKNOWN);
        WagerQuiz over = Quizzes.withPlayers(1);
        over.beginFinal();
        CHECK.due("set in phase 6", over.set(0, 3), 10);
    }

    private static void settingsAreTakenWhenPicked() {
        WagerQuiz quiz = Quizzes.withPlayers(1);
        quiz.pick(0, 0);
        quiz.set(0, 20);
        quiz.set(1, 30);
        quiz.buzz(0, 9);
        CHECK.due("the lock of the pick", quiz.buzz(0, 13), 0);
        CHECK.due("the reading and the lock of the pick", quiz.buzz(0, 14), 1);
        quiz.close();
        quiz.pick(0, 1);
        CHECK.due("the reading of the next pick", quiz.buzz(0, 19), 0);
        CHECK.due("the lock of the next pick, a tick short", quiz.buzz(0, 48), 0);
        CHECK.due("the lock of the next pick", quiz.buzz(0, 49), 1);
    }

    private static void stealIsTakenWhenAnswered() {
        WagerQuiz quiz = Quizzes.quick(3);
        quiz.pick(0, 24);
        quiz.buzz(0, 1);
        quiz.buzz(1, 2);
        quiz.buzz(2, 3);
        quiz.set(2, 33);
        CHECK.due("the first answer is for the value", quiz.answer(false), -500);
        CHECK.due("a steal, rounded down", quiz.answer(false), -165);
        quiz.set(2, 100);
        CHECK.due("a steal of all", quiz.answer(true), 500);
        CHECK.due("told amounts stay", quiz.entry(1, 3), 165);
    }
}
