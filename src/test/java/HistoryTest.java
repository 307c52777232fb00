import java.util.function.IntSupplier;

/** Promises 18 to 20: undo, keep, restore. */
public final class HistoryTest {
    private static final Check CHECK = new Check();

    public static void main(String[] args) {
        undo();
        oldestIsDropped();
        errorsLeaveFullHistory();
        undoIsNoAct();
        undoLeavesTextSlotsAndReason();
        everyActIsRecorded();
        everyActOfTheBoardIsRecorded();
        everythingComesBack();
        keep();
        restore();
        restoreIsAnAct();
        slotsAndHistoryAreCopies();
        slotsHoldDifferentLogs();
        slotsHoldDifferentClues();
        slotsHoldDifferentFinals();
        CHECK.finish();
    }

    private static void undo() {
        WagerQuiz quiz = Quizzes.withPlayers(2);
        CHECK.due("undo", quiz.undo(), 1);
        CHECK.due("players", quiz.count(1), 1);
        CHECK.due("undo", quiz.undo(), 0);
        CHECK.due("players", quiz.count(1), 0);
        CHECK.due("undo of nothing", quiz.undo(), Check.NONE);
        CHECK.due("no reason", quiz.count(11), 0);
        CHECK.due("a player again", quiz.addPlayer(), 0);
        CHECK.due("history", quiz.count(12), 1);
    }

    private static void oldestIsDropped() {
        WagerQuiz quiz = new WagerQuiz();
        for (int value = 1; value <= 20; value++) {
            quiz.set(0, value);
            CHECK.due("history", quiz.count(12), Math.min(value, 5));
        }
        for (int left = 4; left >= 0; left--) {
            CHECK.due("undo", quiz.undo(), left);
            CHECK.due("reading", quiz.count(8), 15 + left);
        }
        CHECK.due("no more", quiz.undo(), Check.NONE);
        CHECK.due("reading", quiz.count(8), 15);
        quiz.set(0, 1);
        quiz.set(0, 2);
        CHECK.due("undo", quiz.undo(), 1);
        CHECK.due("reading", quiz.count(8), 1);
    }

    private static void errorsLeaveFullHistory() {
        WagerQuiz quiz = Quizzes.withPlayers(2);
        for (int value = 1; value <= 5; value++) {
            quiz.set(0, value);
        }
        CHECK.refused("close", quiz, quiz.close(), 1);
        CHECK.due("setWagerClue(0, false)", quiz.setWagerClue(0, false), Check.NONE);
        CHECK.due("correct(2, 0)", quiz.correct(2, 0), Check.UNKNOWN);
        CHECK.due("runScript without a text", quiz.runScript(), -100);
        for (int left = 4; left >= 0; left--) {
            CHECK.due("undo", quiz.undo(), left);
            CHECK.due("reading", quiz.count(8), left == 0 ? 10 : left);
        }
        CHECK.due("players", quiz.count(1), 2);
    }

    private static void undoIsNoAct() {
        WagerQuiz quiz = new WagerQuiz();
        quiz.set(0, 1);
        quiz.set(0, 2);
        quiz.undo();
        quiz.undo();
        CHECK.due("undo does not undo itself", quiz.count(8), 10);
        CHECK.due("history", quiz.count(12), 0);
    }

    private static void undoLeavesTextSlotsAndReason() {
        WagerQuiz quiz = Quizzes.withPlayers(1);
        quiz.set(0, 3);
        quiz.keep(0);
        quiz.type('n');
        quiz.close();
        quiz.set(0, 4);
        quiz.undo();
        quiz.undo();
        CHECK.due("reading", quiz.count(8), 10);
        CHECK.due("the reason", quiz.count(11), 1);
        CHECK.due("the text", quiz.count(13), 1);
        CHECK.due("the slot", quiz.restore(0), 0);
        CHECK.due("reading of the slot", quiz.count(8), 3);
        CHECK.due("the reason behind restore", quiz.count(11), 1);
    }

    /** The call is recorded, and undo brings back all that was before it. */
    private static void acts(String act, WagerQuiz quiz, IntSupplier call) {
        String before = Quizzes.picture(quiz);
        int states = quiz.count(12);
        CHECK.holds(act + " does", call.getAsInt() >= -1000);
        CHECK.due(act + " is recorded", quiz.count(12), states + 1);
        CHECK.due(act + " is undone", quiz.undo(), states);
        same(act + " undone", quiz, before);
    }

    private static void everyActIsRecorded() {
        WagerQuiz none = new WagerQuiz();
        acts("addPlayer", none, none::addPlayer);
        WagerQuiz board = new WagerQuiz();
        acts("setWagerClue", board, () -> board.setWagerClue(0, true));
        WagerQuiz settings = new WagerQuiz();
        acts("set", settings, () -> settings.set(1, 1));
        WagerQuiz picking = Quizzes.withPlayers(1);
        acts("pick", picking, () -> picking.pick(0, 0));
        WagerQuiz corrected = Quizzes.withPlayers(1);
        acts("correct", corrected, () -> corrected.correct(0, 1));
        WagerQuiz finale = Quizzes.withScores(100);
        acts("beginFinal", finale, finale::beginFinal);
        WagerQuiz script = Quizzes.withPlayers(1);
        Quizzes.typeAll(script, "p00n");
        acts("runScript", script, script::runScript);
        WagerQuiz kept = Quizzes.withPlayers(1);
        kept.keep(1);
        CHECK.due("keep is no act", kept.count(12), 1);
        kept.addPlayer();
        acts("restore", kept, () -> kept.restore(1));
    }

    private static void everyActOfTheBoardIsRecorded() {
        WagerQuiz open = Quizzes.quick(1);
        open.pick(0, 0);
        acts("buzz", open, () -> open.buzz(0, 3));
        WagerQuiz closing = Quizzes.quick(1);
        closing.pick(0, 0);
        acts("close", closing, closing::close);
        WagerQuiz buzzed = Quizzes.quick(1);
        Quizzes.run(buzzed, "p00b003");
        acts("answer", buzzed, () -> buzzed.answer(true));
        WagerQuiz wager = Quizzes.atWagerClue(1);
        acts("wager", wager, () -> wager.wager(3));
        WagerQuiz last = Quizzes.withScores(100);
        last.beginFinal();
        acts("wagerFinal", last, () -> last.wagerFinal(0, 3));
        WagerQuiz log = Quizzes.quick(1);
        Quizzes.run(log, "p00b000+");
        acts("rejudge", log, () -> log.rejudge(0));
    }

    private static void same(String when, WagerQuiz quiz, String picture) {
        CHECK.holds(when + ": all is as it was", Quizzes.picture(quiz).equals(picture));
    }

    private static void everythingComesBack() {
        WagerQuiz open = Quizzes.withPlayers(3);
        Quizzes.run(open, "p24b210b170b010-");
        String picture = Quizzes.picture(open);
        open.set(2, 3);
        open.buzz(0, 9);
        open.answer(true);
        open.rejudge(0);
        open.pick(open.count(4), 3);
        for (int i = 0; i < 5; i++) {
            open.undo();
        }
        same("an open clue", open, picture);
        CHECK.due("told buzzes", open.buzz(1, 70), Check.NONE);
        CHECK.due("undone buzzes", open.buzz(0, 9), 2);
        WagerQuiz last = Quizzes.withScores(300, 200);
        last.beginFinal();
        last.wagerFinal(0, 10);
        String before = Quizzes.picture(last);
        last.wagerFinal(1, 20);
        last.answer(true);
        last.answer(false);
        for (int i = 0; i < 3; i++) {
            last.undo();
        }
        same("the final round", last, before);
        CHECK.due("the wager is wanting again", last.wagerFinal(1, 30), 0);
        CHECK.due("and answered for", last.answer(true), 230);
        WagerQuiz wager = Quizzes.atWagerClue(1);
        wager.wager(40);
        wager.answer(true);
        wager.undo();
        CHECK.due("the wager is told again", wager.answer(false), -40);
    }

    private static void keep() {
        WagerQuiz quiz = Quizzes.withScores(100, 50);
        CHECK.due("keep(0)", quiz.keep(0), 2);
        CHECK.due("keep(1)", quiz.keep(1), 2);
        CHECK.due("keep(2)", quiz.keep(2), Check.UNKNOWN);
        CHECK.due("keep(-1)", quiz.keep(-1), Check.UNKNOWN);
        CHECK.due("no act", quiz.count(12), 4);
        quiz.correct(0, 7);
        CHECK.due("keep(1) in place", quiz.keep(1), 3);
        quiz.restore(0);
        CHECK.due("slot 0", quiz.player(0, 0), 100);
        quiz.restore(1);
        CHECK.due("slot 1", quiz.player(0, 0), 107);
    }

    private static void restore() {
        WagerQuiz quiz = new WagerQuiz();
        CHECK.due("restore(2)", quiz.restore(2), Check.UNKNOWN);
        CHECK.due("restore(-1)", quiz.restore(-1), Check.UNKNOWN);
        CHECK.due("restore(0) of nothing", quiz.restore(0), Check.NONE);
        quiz.keep(1);
        CHECK.due("restore(0) of nothing still", quiz.restore(0), Check.NONE);
        CHECK.due("no act", quiz.count(12), 0);
        quiz.addPlayer();
        quiz.correct(0, 5);
        quiz.pick(0, 0);
        CHECK.due("restore(1)", quiz.restore(1), 0);
        CHECK.due("players", quiz.count(1), 0);
        CHECK.due("phase", quiz.count(0), 0);
        CHECK.due("clues", quiz.count(2), 25);
        CHECK.due("it stays", quiz.restore(1), 0);
        CHECK.due("players can be added", quiz.addPlayer(), 0);
        CHECK.due("the log is empty", quiz.player(0, 0), 0);
    }

    private static void restoreIsAnAct() {
        WagerQuiz quiz = Quizzes.withScores(100);
        quiz.keep(0);
        quiz.correct(0, 11);
        CHECK.due("restore", quiz.restore(0), 1);
        CHECK.due("history", quiz.count(12), 4);
        CHECK.due("undo of it", quiz.undo(), 3);
        CHECK.due("score", quiz.player(0, 0), 111);
        CHECK.due("undo goes on", quiz.undo(), 2);
        CHECK.due("score", quiz.player(0, 0), 100);
    }

    private static void slotsAndHistoryAreCopies() {
        WagerQuiz quiz = Quizzes.quick(2);
        Quizzes.run(quiz, "p24b010b170");
        quiz.keep(0);
        String picture = Quizzes.picture(quiz);
        quiz.answer(false);
        quiz.set(1, 1);
        quiz.buzz(1, 5);
        quiz.restore(0);
        quiz.answer(true);
        quiz.restore(0);
        same("the slot", quiz, picture);
    }

    /** The quiz, emptied, with what the restored slot would have to bring back. */
    private static WagerQuiz withEmptySlot(int players) {
        WagerQuiz quiz = Quizzes.quick(players);
        quiz.setWagerClue(6, true);
        quiz.keep(0);
        return quiz;
    }

    private static void slotsHoldDifferentLogs() {
        WagerQuiz quiz = withEmptySlot(2);
        Quizzes.run(quiz, "p24b110b011-+");
        quiz.keep(1);
        quiz.restore(0);
        quiz.correct(0, 3);
        Quizzes.run(quiz, "p00b011+");
        CHECK.due("restore(1)", quiz.restore(1), 2);
        long[][] due = {{1, 0, 24, 500, 500, 0, -500, 0}, {0, 1, 24, 250, 250, 1, 250, 0}};
        for (int entry = 0; entry < 2; entry++) {
            for (int what = 0; what < 8; what++) {
                CHECK.due("entry(" + entry + ", " + what + ")", quiz.entry(entry, what), due[entry][what]);
            }
        }
    }

    private static void slotsHoldDifferentClues() {
        WagerQuiz quiz = withEmptySlot(1);
        quiz.set(0, 20);
        quiz.set(1, 3);
        quiz.pick(0, 0);
        quiz.buzz(0, 19);
        quiz.keep(1);
        quiz.restore(0);
        quiz.pick(0, 1);
        quiz.restore(1);
        CHECK.due("clue", quiz.count(3), 0);
        CHECK.due("the lock of the slot", quiz.buzz(0, 21), 0);
        CHECK.due("the lock of the slot", quiz.buzz(0, 22), 1);
        quiz.restore(0);
        quiz.pick(0, 6);
        quiz.wager(70);
        quiz.keep(1);
        quiz.restore(0);
        quiz.pick(0, 6);
        quiz.wager(80);
        quiz.restore(1);
        CHECK.due("the wager of the slot", quiz.answer(true), 70);
    }

    private static void slotsHoldDifferentFinals() {
        WagerQuiz quiz = withEmptySlot(2);
        quiz.correct(0, 30);
        quiz.beginFinal();
        quiz.keep(1);
        quiz.restore(0);
        quiz.correct(1, 40);
        quiz.beginFinal();
        quiz.wagerFinal(1, 40);
        quiz.restore(1);
        CHECK.due("the wagers of the slot", quiz.player(1, 6), Check.NONE);
        CHECK.refused("the members of the slot", quiz, quiz.wagerFinal(1, 0), 6);
        CHECK.due("the scores of the slot", quiz.wagerFinal(0, 30), 0);
        CHECK.due("the turns of the slot", quiz.count(14), 0);
    }
}
