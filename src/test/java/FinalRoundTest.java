/** Promises 10 to 12: beginFinal, wagerFinal, safeWager; and the answers of the final round. */
public final class FinalRoundTest {
    private static final Check CHECK = new Check();

    public static void main(String[] args) {
        beginFinal();
        beginFinalRefusals();
        nobodyTakesPart();
        wagerFinal();
        wagerFinalErrors();
        limitsStandAsBegun();
        answersInOrder();
        leastScores();
        fullLogInFinal();
        amountsAreLimitedByReplay();
        controlIsLeftAlone();
        safeWager();
        safeWagerErrors();
        CHECK.finish();
    }

    private static void beginFinal() {
        WagerQuiz quiz = Quizzes.withScores(100, 0, -5, 1);
        CHECK.due("beginFinal", quiz.beginFinal(), 2);
        CHECK.due("phase", quiz.count(0), 4);
        CHECK.due("no clue under way", quiz.count(3), Check.NONE);
        CHECK.due("nobody answers yet", quiz.count(14), Check.NONE);
        CHECK.refused("beginFinal again", quiz, quiz.beginFinal(), 1);
        CHECK.refused("pick in phase 4", quiz, quiz.pick(0, 0), 1);
        quiz.undo();
        CHECK.due("undone", quiz.count(0), 0);
    }

    private static void beginFinalRefusals() {
        WagerQuiz empty = new WagerQuiz();
        CHECK.refused("without players", empty, empty.beginFinal(), 8);
        WagerQuiz open = Quizzes.withScores(100);
        open.pick(0, 0);
        CHECK.refused("in phase 1", open, open.beginFinal(), 1);
        WagerQuiz wager = Quizzes.atWagerClue(1);
        CHECK.refused("in phase 2", wager, wager.beginFinal(), 1);
        wager.wager(1);
        CHECK.refused("in phase 3", wager, wager.beginFinal(), 1);
    }

    private static void nobodyTakesPart() {
        WagerQuiz quiz = Quizzes.withScores(0, -1);
        CHECK.due("beginFinal", quiz.beginFinal(), 0);
        CHECK.due("phase", quiz.count(0), 6);
        CHECK.due("an act", quiz.count(12), 4);
        CHECK.refused("beginFinal in phase 6", quiz, quiz.beginFinal(), 1);
        CHECK.due("correct in phase 6", quiz.correct(0, 9), 9);
        CHECK.due("the phase stays", quiz.count(0), 6);
    }

    private static void wagerFinal() {
        WagerQuiz quiz = Quizzes.withScores(100, 300, 200);
        quiz.beginFinal();
        CHECK.due("not told", quiz.player(1, 6), Check.NONE);
        CHECK.due("wagerFinal(1, 300)", quiz.wagerFinal(1, 300), 2);
        CHECK.due("told", quiz.player(1, 6), 300);
        CHECK.refused("told twice", quiz, quiz.wagerFinal(1, 1), 6);
        CHECK.refused("told twice, ahead of the limit", quiz, quiz.wagerFinal(1, 301), 6);
        CHECK.refused("beyond the score", quiz, quiz.wagerFinal(0, 101), 5);
        CHECK.due("wagerFinal(0, 0)", quiz.wagerFinal(0, 0), 1);
        CHECK.due("a wager of 0 is told", quiz.player(0, 6), 0);
        CHECK.refused("a wager of 0 is told once", quiz, quiz.wagerFinal(0, 5), 6);
        CHECK.due("the phase stays", quiz.count(0), 4);
        CHECK.due("wagerFinal(2, 5)", quiz.wagerFinal(2, 5), 0);
        CHECK.due("phase", quiz.count(0), 5);
        CHECK.refused("wagerFinal in phase 5", quiz, quiz.wagerFinal(2, 5), 1);
    }

    private static void wagerFinalErrors() {
        WagerQuiz quiz = Quizzes.withScores(100, 0, -100);
        CHECK.refused("in phase 0", quiz, quiz.wagerFinal(0, 100000), 1);
        CHECK.due("wagerFinal(3, 0)", quiz.wagerFinal(3, 0), Check.UNKNOWN);
        CHECK.due("wagerFinal(-1, 0)", quiz.wagerFinal(-1, 0), Check.UNKNOWN);
        CHECK.due("UNKNOWN ahead of BAD_VALUE", quiz.wagerFinal(3, -1), Check.UNKNOWN);
        CHECK.due("wagerFinal(0, -1)", quiz.wagerFinal(0, -1), Check.BAD_VALUE);
        CHECK.due("wagerFinal(0, 100001)", quiz.wagerFinal(0, 100001), Check.BAD_VALUE);
        quiz.beginFinal();
        CHECK.refused("a score of 0 takes no part", quiz, quiz.wagerFinal(1, 0), 6);
        CHECK.refused("a negative score takes no part", quiz, quiz.wagerFinal(2, 0), 6);
        CHECK.due("BAD_VALUE ahead of REFUSED", quiz.wagerFinal(2, -1), Check.BAD_VALUE);
    }

    private static void limitsStandAsBegun() {
        WagerQuiz quiz = Quizzes.withScores(100, 50);
        quiz.beginFinal();
        quiz.correct(0, -90);
        quiz.correct(1, 500);
        CHECK.due("the score of the beginning", quiz.wagerFinal(0, 100), 1);
        CHECK.refused("not the score of now", quiz, quiz.wagerFinal(1, 51), 5);
        quiz.wagerFinal(1, 50);
        CHECK.due("the order of the beginning", quiz.count(14), 1);
        quiz.answer(true);
        CHECK.due("the next", quiz.count(14), 0);
    }

    private static void answersInOrder() {
        WagerQuiz quiz = Quizzes.withScores(200, 100, 0, 200, 300);
        quiz.beginFinal();
        quiz.wagerFinal(4, 4);
        quiz.wagerFinal(3, 3);
        quiz.wagerFinal(1, 1);
        quiz.wagerFinal(0, 50);
        int[] players = {1, 0, 3, 4};
        int[] scores = {101, 150, 203, 296};
        boolean[] rights = {true, false, true, false};
        for (int i = 0; i < 4; i++) {
            CHECK.due("phase", quiz.count(0), 5);
            CHECK.due("next to answer", quiz.count(14), players[i]);
            CHECK.due("answer", quiz.answer(rights[i]), scores[i]);
            int entry = quiz.count(5) - 1;
            CHECK.due("entry: player", quiz.entry(entry, 0), players[i]);
            CHECK.due("entry: sort", quiz.entry(entry, 1), 3);
            CHECK.due("entry: clue", quiz.entry(entry, 2), Check.NONE);
            CHECK.due("entry: told", quiz.entry(entry, 3), quiz.player(players[i], 6));
        }
        CHECK.due("over", quiz.count(0), 6);
        CHECK.due("nobody is next", quiz.count(14), Check.NONE);
        CHECK.due("the wagers stay", quiz.player(0, 6), 50);
        CHECK.due("a final answer counts as right", quiz.player(1, 1), 1);
        CHECK.due("a final answer counts as wrong", quiz.player(4, 2), 1);
    }

    private static void leastScores() {
        WagerQuiz quiz = Quizzes.withScores(0, 2, 1, 1);
        CHECK.due("a score of 1 takes part", quiz.beginFinal(), 3);
        CHECK.due("wanting", quiz.wagerFinal(1, 2), 2);
        CHECK.due("wanting", quiz.wagerFinal(3, 1), 1);
        CHECK.due("wanting", quiz.wagerFinal(2, 1), 0);
        int[] turns = {2, 3, 1};
        for (int player : turns) {
            CHECK.due("turn", quiz.count(14), player);
            quiz.answer(true);
        }
        CHECK.due("over", quiz.count(0), 6);
    }

    private static void fullLogInFinal() {
        WagerQuiz quiz = Quizzes.withScores(200);
        Quizzes.fillLog(quiz);
        quiz.beginFinal();
        quiz.wagerFinal(0, 200);
        CHECK.refused("a final answer with a full log", quiz, quiz.answer(true), 7);
        CHECK.due("still next", quiz.count(14), 0);
    }

    private static void amountsAreLimitedByReplay() {
        WagerQuiz quiz = Quizzes.withScores(200);
        quiz.beginFinal();
        quiz.correct(0, -150);
        quiz.wagerFinal(0, 200);
        CHECK.due("wrong, for the score at this point", quiz.answer(false), 0);
        CHECK.due("told", quiz.entry(2, 3), 200);
        CHECK.due("amount", quiz.entry(2, 4), 50);
        WagerQuiz below = Quizzes.withScores(200);
        below.beginFinal();
        below.wagerFinal(0, 200);
        below.correct(0, -300);
        CHECK.due("nothing of a negative score", below.answer(true), -100);
        CHECK.due("amount", below.entry(2, 4), 0);
        CHECK.due("not void", below.entry(2, 7), 0);
        CHECK.due("counts as right", below.player(0, 1), 1);
    }

    private static void controlIsLeftAlone() {
        WagerQuiz quiz = Quizzes.withScores(200, 300);
        quiz.pick(0, 0);
        quiz.buzz(0, 30);
        quiz.answer(true);
        quiz.beginFinal();
        quiz.wagerFinal(0, 1);
        quiz.wagerFinal(1, 1);
        quiz.answer(true);
        quiz.answer(true);
        CHECK.due("the last right answer", quiz.entry(4, 0), 1);
        CHECK.due("the control", quiz.count(4), 0);
    }

    private static void safeWager() {
        CHECK.due("alone", Quizzes.withScores(100).safeWager(0), 0);
        CHECK.due("half and one more", Quizzes.withScores(400, 250).safeWager(0), 101);
        CHECK.due("the whole score", Quizzes.withScores(401, 400).safeWager(0), 400);
        CHECK.due("double is just enough", Quizzes.withScores(101, 100).safeWager(0), 100);
        CHECK.due("equal scores", Quizzes.withScores(100, 100).safeWager(0), Check.NONE);
        CHECK.due("no wager would do", Quizzes.withScores(100, 101).safeWager(0), Check.NONE);
        CHECK.due("exactly half", Quizzes.withScores(200, 100).safeWager(0), 1);
        CHECK.due("below half", Quizzes.withScores(201, 100).safeWager(0), 0);
        CHECK.due("far above", Quizzes.withScores(900, 100).safeWager(0), 0);
        CHECK.due("nobody else, and a score of 0", Quizzes.withScores(0).safeWager(0), Check.NONE);
        CHECK.due("against the player 0", Quizzes.withScores(100, 190).safeWager(1), 11);
        CHECK.due("against a score of 1", Quizzes.withScores(2, 1).safeWager(0), 1);
        CHECK.due("against a score of 0", Quizzes.withScores(1, 0).safeWager(0), 0);
        CHECK.due("against negative scores", Quizzes.withScores(1, -900, -3).safeWager(0), 0);
        CHECK.due("the greatest of the others", Quizzes.withScores(10, 90, 100, 80).safeWager(2), 81);
        WagerQuiz quiz = Quizzes.withScores(400, 250);
        quiz.beginFinal();
        CHECK.due("in the final round", quiz.safeWager(0), 101);
        quiz.correct(1, 10);
        CHECK.due("by the scores of now", quiz.safeWager(0), 121);
        CHECK.due("is no act", quiz.count(12), 5);
    }

    private static void safeWagerErrors() {
        WagerQuiz quiz = Quizzes.withScores(0, -1, 5);
        CHECK.due("a score of 0", quiz.safeWager(0), Check.NONE);
        CHECK.due("a negative score", quiz.safeWager(1), Check.NONE);
        CHECK.due("safeWager(3)", quiz.safeWager(3), Check.UNKNOWN);
        CHECK.due("safeWager(-1)", quiz.safeWager(-1), Check.UNKNOWN);
    }
}
