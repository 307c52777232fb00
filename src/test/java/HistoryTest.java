/** Promises 18 to 20: undo, keep, restore. */
public final class HistoryTest {
    private static final Check CHECK = new Check();

    public static void main(String[] args) {
        undo();
        oldestIsDropped();
        undoIsNoAct();
        undoLeavesTextSlotsAndReason();
        everyActIsRecorded();
        everythingComesBack();
        keep();
        restore();
        restoreIsAnAct();
        slotsAndHistoryAreCopies();
        CHECK.finish();
    }

    private static void undo() {
        WagerQuiz quiz = Quizzes.withPlayers(2);
        CHECK.due("undo", quiz.undo(), 1);
        CHECK.due("players", quiz.count(1), 1);
        CHECK.due("undo", quiz.undo(), 0);
        CHECK.due("players", quiz.count(1), 0);
        CHECK.due("undo of nothing", quiz.undo(), Check.NONE);
        CHECK.due("no reason", quiz.count(11), 0);
        CHECK.due("a player again", quiz.addPlayer(), 0);
        CHECK.due("history", quiz.count(12), 1);
    }

    private static void oldestIsDropped() {
        WagerQuiz quiz = new WagerQuiz();
        for (int value = 1; value <= 20; value++) {
            quiz.set(0, value);
            CHECK.due("history", quiz.count(12), Math.min(value, 5));
        }
        for (int left = 4; left >= 0; left--) {
            CHECK.due("undo", quiz.undo(), left);
            CHECK.due("reading", quiz.count(8), 15 + left);
        }
        CHECK.due("no more", quiz.undo(), Check.NONE);
        CHECK.due("reading", quiz.count(8), 15);
        quiz.set(0, 1);
        quiz.set(0, 2);
        CHECK.due("undo", quiz.undo(), 1);
        CHECK.due("reading", quiz.count(8), 1);
    }

    private static void undoIsNoAct() {
        WagerQuiz quiz = new WagerQuiz();
        quiz.set(0, 1);
        quiz.set(0, 2);
        quiz.undo();
        quiz.undo();
        CHECK.due("undo does not undo itself", quiz.count(8), 10);
        CHECK.due("history", quiz.count(12), 0);
    }

    private static void undoLeavesTextSlotsAndReason() {
        WagerQuiz quiz = Quizzes.withPlayers(1);
        quiz.set(0, 3);
        quiz.keep(0);
        quiz.type('n');
        quiz.close();
        quiz.set(0, 4);
        quiz.undo();
        quiz.undo();
        CHECK.due("reading", quiz.count(8), 10);
        CHECK.due("the reason", quiz.count(11), 1);
        CHECK.due("the text", quiz.count(13), 1);
        CHECK.due("the slot", quiz.restore(0), 0);
        CHECK.due("reading of the slot", quiz.count(8), 3);
        CHECK.due("the reason behind restore", quiz.count(11), 1);
    }

    private static void acts(String act, WagerQuiz quiz, long answer, int before) {
        CHECK.due(act + " does", answer >= -1000 ? 1 : 0, 1);
        CHECK.due(act + " is recorded", quiz.count(12), before + 1);
        quiz.undo();
        CHECK.due(act + " is undone", quiz.count(12), before);
    }

    private static void everyActIsRecorded() {
        WagerQuiz quiz = Quizzes.quick(1);
        acts("addPlayer", quiz, quiz.addPlayer(), 2);
        acts("setWagerClue", quiz, quiz.setWagerClue(0, true), 2);
        acts("set", quiz, quiz.set(1, 1), 2);
        acts("pick", quiz, quiz.pick(0, 0), 2);
        acts("correct", quiz, quiz.correct(0, 1), 2);
        acts("beginFinal", quiz, quiz.beginFinal(), 2);
        Quizzes.typeAll(quiz, "n");
        acts("runScript", quiz, quiz.runScript(), 2);
        quiz.keep(1);
        CHECK.due("keep is no act", quiz.count(12), 2);
        acts("restore", quiz, quiz.restore(1), 2);
        quiz.pick(0, 0);
        acts("buzz", quiz, quiz.buzz(0, 3), 3);
        acts("close", quiz, quiz.close(), 3);
        quiz.buzz(0, 3);
        acts("answer", quiz, quiz.answer(true), 4);
        WagerQuiz wager = Quizzes.atWagerClue(1);
        acts("wager", wager, wager.wager(3), 3);
        WagerQuiz last = Quizzes.withScores(100);
        last.beginFinal();
        acts("wagerFinal", last, last.wagerFinal(0, 3), 3);
        WagerQuiz log = Quizzes.quick(1);
        Quizzes.run(log, "p00b000+");
        acts("rejudge", log, log.rejudge(0), 3);
    }

    private static void same(String when, WagerQuiz quiz, String picture) {
        CHECK.due(when + ": all is as it was", Quizzes.picture(quiz).equals(picture) ? 1 : 0, 1);
    }

    private static void everythingComesBack() {
        WagerQuiz open = Quizzes.withPlayers(3);
        Quizzes.run(open, "p24b210b170b010-");
        String picture = Quizzes.picture(open);
        open.set(2, 3);
        open.buzz(0, 9);
        open.answer(true);
        open.rejudge(0);
        open.pick(open.count(4), 3);
        for (int i = 0; i < 5; i++) {
            open.undo();
        }
        same("an open clue", open, picture);
        CHECK.due("told buzzes", open.buzz(1, 70), Check.NONE);
        CHECK.due("undone buzzes", open.buzz(0, 9), 2);
        WagerQuiz last = Quizzes.withScores(300, 200);
        last.beginFinal();
        last.wagerFinal(0, 10);
        String before = Quizzes.picture(last);
        last.wagerFinal(1, 20);
        last.answer(true);
        last.answer(false);
        for (int i = 0; i < 3; i++) {
            last.undo();
        }
        same("the final round", last, before);
        CHECK.due("the wager is wanting again", last.wagerFinal(1, 30), 0);
        CHECK.due("and answered for", last.answer(true), 230);
        WagerQuiz wager = Quizzes.atWagerClue(1);
        wager.wager(40);
        wager.answer(true);
        wager.undo();
        CHECK.due("the wager is told again", wager.answer(false), -40);
    }

    private static void keep() {
        WagerQuiz quiz = Quizzes.withScores(100, 50);
        CHECK.due("keep(0)", quiz.keep(0), 2);
        CHECK.due("keep(1)", quiz.keep(1), 2);
        CHECK.due("keep(2)", quiz.keep(2), Check.UNKNOWN);
        CHECK.due("keep(-1)", quiz.keep(-1), Check.UNKNOWN);
        CHECK.due("no act", quiz.count(12), 4);
        quiz.correct(0, 7);
        CHECK.due("keep(1) in place", quiz.keep(1), 3);
        quiz.restore(0);
        CHECK.due("slot 0", quiz.player(0, 0), 100);
        quiz.restore(1);
        CHECK.due("slot 1", quiz.player(0, 0), 107);
    }

    private static void restore() {
        WagerQuiz quiz = new WagerQuiz();
        CHECK.due("restore(2)", quiz.restore(2), Check.UNKNOWN);
        CHECK.due("restore(-1)", quiz.restore(-1), Check.UNKNOWN);
        CHECK.due("restore(0) of nothing", quiz.restore(0), Check.NONE);
        quiz.keep(1);
        CHECK.due("restore(0) of nothing still", quiz.restore(0), Check.NONE);
        CHECK.due("no act", quiz.count(12), 0);
        quiz.addPlayer();
        quiz.correct(0, 5);
        quiz.pick(0, 0);
        CHECK.due("restore(1)", quiz.restore(1), 0);
        CHECK.due("players", quiz.count(1), 0);
        CHECK.due("phase", quiz.count(0), 0);
        CHECK.due("clues", quiz.count(2), 25);
        CHECK.due("it stays", quiz.restore(1), 0);
        CHECK.due("players can be added", quiz.addPlayer(), 0);
        CHECK.due("the log is empty", quiz.player(0, 0), 0);
    }

    private static void restoreIsAnAct() {
        WagerQuiz quiz = Quizzes.withScores(100);
        quiz.keep(0);
        quiz.correct(0, 11);
        CHECK.due("restore", quiz.restore(0), 1);
        CHECK.due("history", quiz.count(12), 4);
        CHECK.due("undo of it", quiz.undo(), 3);
        CHECK.due("score", quiz.player(0, 0), 111);
        CHECK.due("undo goes on", quiz.undo(), 2);
        CHECK.due("score", quiz.player(0, 0), 100);
    }

    private static void slotsAndHistoryAreCopies() {
        WagerQuiz quiz = Quizzes.quick(2);
        Quizzes.run(quiz, "p24b010b170");
        quiz.keep(0);
        String picture = Quizzes.picture(quiz);
        quiz.answer(false);
        quiz.set(1, 1);
        quiz.buzz(1, 5);
        quiz.restore(0);
        quiz.answer(true);
        quiz.restore(0);
        same("the slot", quiz, picture);
    }
}
