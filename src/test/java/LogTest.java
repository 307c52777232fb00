/** Promises 13 and 14: correct, rejudge; and the replay. */
public final class LogTest {
    private static final Check CHECK = new Check();

    public static void main(String[] args) {
        correct();
        correctErrors();
        rejudge();
        rejudgeErrors();
        rejudgeMakesStealsVoid();
        rejudgeLeavesWhatIsUnderWay();
        rejudgeMovesTheControl();
        rejudgeMovesLaterLimits();
        rejudgeOfFinalAnswer();
        chainOfVoidSteals();
        CHECK.finish();
    }

    private static void correct() {
        WagerQuiz quiz = Quizzes.withPlayers(2);
        CHECK.due("correct(0, 10000)", quiz.correct(0, 10000), 10000);
        CHECK.due("correct(0, -10000)", quiz.correct(0, -10000), 0);
        CHECK.due("correct(1, -10000)", quiz.correct(1, -10000), -10000);
        CHECK.due("correct(1, 0)", quiz.correct(1, 0), -10000);
        CHECK.due("entries", quiz.count(5), 4);
        CHECK.due("acts", quiz.count(12), 5);
        CHECK.due("sum of corrections", quiz.player(0, 7), 0);
        CHECK.due("sum of corrections", quiz.player(1, 7), -10000);
        CHECK.due("no answers", quiz.player(1, 1) + quiz.player(1, 2), 0);
        long[] due = {1, 4, Check.NONE, -10000, -10000, Check.NONE, -10000, 0};
        for (int what = 0; what < 8; what++) {
            CHECK.due("entry(2, " + what + ")", quiz.entry(2, what), due[what]);
        }
    }

    private static void correctErrors() {
        WagerQuiz quiz = Quizzes.withPlayers(1);
        CHECK.due("correct(1, 0)", quiz.correct(1, 0), Check.UNKNOWN);
        CHECK.due("correct(-1, 0)", quiz.correct(-1, 0), Check.UNKNOWN);
        CHECK.due("UNKNOWN ahead of BAD_VALUE", quiz.correct(1, 10001), Check.UNKNOWN);
        CHECK.due("correct(0, 10001)", quiz.correct(0, 10001), Check.BAD_VALUE);
        CHECK.due("correct(0, -10001)", quiz.correct(0, -10001), Check.BAD_VALUE);
        for (int i = 0; i < 60; i++) {
            CHECK.due("correct", quiz.correct(0, 10), 10 * (i + 1));
        }
        CHECK.refused("the 61st entry", quiz, quiz.correct(0, 10), 7);
        CHECK.due("BAD_VALUE ahead of REFUSED", quiz.correct(0, 10001), Check.BAD_VALUE);
        CHECK.due("entry(59, 6)", quiz.entry(59, 6), 600);
        CHECK.due("entry(60, 6)", quiz.entry(60, 6), Check.UNKNOWN);
    }

    private static void rejudge() {
        WagerQuiz quiz = Quizzes.quick(2);
        Quizzes.answerAlone(quiz, 5, 1, true);
        CHECK.due("score", quiz.player(1, 0), 200);
        CHECK.due("rejudge(0)", quiz.rejudge(0), 1);
        CHECK.due("score", quiz.player(1, 0), -200);
        CHECK.due("judgement", quiz.entry(0, 5), 0);
        CHECK.due("wrong answers", quiz.player(1, 2), 1);
        CHECK.due("right answers", quiz.player(1, 1), 0);
        CHECK.due("rejudge(0) again", quiz.rejudge(0), 1);
        CHECK.due("score", quiz.player(1, 0), 200);
        CHECK.due("judgement", quiz.entry(0, 5), 1);
        quiz.undo();
        CHECK.due("undone", quiz.player(1, 0), -200);
        CHECK.due("undone", quiz.entry(0, 5), 0);
    }

    private static void rejudgeErrors() {
        WagerQuiz quiz = Quizzes.quick(1);
        CHECK.due("rejudge(0) of no entry", quiz.rejudge(0), Check.UNKNOWN);
        quiz.correct(0, 5);
        CHECK.due("rejudge of a correction", quiz.rejudge(0), Check.BAD_VALUE);
        CHECK.due("rejudge(1)", quiz.rejudge(1), Check.UNKNOWN);
        CHECK.due("rejudge(-1)", quiz.rejudge(-1), Check.UNKNOWN);
        CHECK.due("acts", quiz.count(12), 3);
        CHECK.due("no reason", quiz.count(11), 0);
        CHECK.due("judgement", quiz.entry(0, 5), Check.NONE);
    }

    private static WagerQuiz withSteal(int clue) {
        WagerQuiz quiz = Quizzes.quick(3);
        quiz.pick(0, clue);
        quiz.buzz(0, 1);
        quiz.buzz(1, 2);
        quiz.buzz(2, 3);
        quiz.answer(false);
        quiz.answer(false);
        quiz.answer(true);
        return quiz;
    }

    private static void rejudgeMakesStealsVoid() {
        WagerQuiz quiz = withSteal(20);
        CHECK.due("rejudge(0)", quiz.rejudge(0), 3);
        CHECK.due("score 0", quiz.player(0, 0), 500);
        CHECK.due("score 1", quiz.player(1, 0), 0);
        CHECK.due("score 2", quiz.player(2, 0), 0);
        CHECK.due("void 0", quiz.entry(0, 7), 0);
        CHECK.due("void 1", quiz.entry(1, 7), 1);
        CHECK.due("void 2", quiz.entry(2, 7), 1);
        CHECK.due("told of a void one", quiz.entry(2, 3), 250);
        CHECK.due("amount of a void one", quiz.entry(2, 4), 0);
        CHECK.due("judgement of a void one", quiz.entry(2, 5), 1);
        CHECK.due("a void right does not count", quiz.player(2, 1), 0);
        CHECK.due("a void wrong does not count", quiz.player(1, 2), 0);
        CHECK.due("answers, void ones too", quiz.clue(20, 3), 3);
        CHECK.due("solver", quiz.clue(20, 4), 0);
        CHECK.due("control", quiz.count(4), 0);
        CHECK.due("rejudge of a void one", quiz.rejudge(2), 0);
        CHECK.due("it is an act", quiz.count(12), 5);
        quiz.rejudge(0);
        CHECK.due("no longer void", quiz.entry(2, 7), 0);
        CHECK.due("wrong now", quiz.player(2, 0), -250);
        CHECK.due("nobody solved it", quiz.clue(20, 4), Check.NONE);
    }

    private static void rejudgeLeavesWhatIsUnderWay() {
        WagerQuiz quiz = Quizzes.quick(3);
        quiz.pick(0, 20);
        quiz.buzz(0, 1);
        quiz.buzz(1, 2);
        quiz.answer(false);
        CHECK.due("rejudge(0)", quiz.rejudge(0), 1);
        CHECK.due("the clue stays open", quiz.count(0), 1);
        CHECK.due("the queue stays", quiz.queued(0), 1);
        CHECK.due("a void answer", quiz.answer(true), 0);
        CHECK.due("it is void", quiz.entry(1, 7), 1);
        CHECK.due("the clue is done", quiz.count(0), 0);
        CHECK.due("the control", quiz.count(4), 0);
        WagerQuiz last = Quizzes.withScores(100);
        last.pick(0, 0);
        last.buzz(0, 50);
        last.answer(true);
        last.beginFinal();
        last.wagerFinal(0, 200);
        last.rejudge(1);
        CHECK.due("the final wager stays", last.player(0, 6), 200);
        CHECK.due("but its amount is limited", last.answer(true), 0);
    }

    private static void rejudgeMovesTheControl() {
        WagerQuiz quiz = Quizzes.quick(3);
        Quizzes.answerAlone(quiz, 0, 1, true);
        Quizzes.answerAlone(quiz, 1, 2, true);
        quiz.correct(0, 50);
        CHECK.due("control", quiz.count(4), 2);
        quiz.rejudge(1);
        CHECK.due("control of the one before", quiz.count(4), 1);
        quiz.rejudge(0);
        CHECK.due("control of nobody", quiz.count(4), 0);
        quiz.rejudge(1);
        CHECK.due("control of the latest", quiz.count(4), 2);
        CHECK.refused("pick without it", quiz, quiz.pick(1, 3), 2);
        CHECK.due("pick with it", quiz.pick(2, 3), 100);
    }

    private static void rejudgeMovesLaterLimits() {
        WagerQuiz quiz = Quizzes.quick(1);
        quiz.setWagerClue(6, true);
        quiz.correct(0, 300);
        Quizzes.answerAlone(quiz, 24, 0, true);
        quiz.pick(0, 6);
        CHECK.due("the limit", quiz.wager(800), 800);
        CHECK.due("won", quiz.answer(true), 1600);
        CHECK.due("rejudge(1)", quiz.rejudge(1), 1);
        CHECK.due("limited to 500 now", quiz.entry(2, 4), 500);
        CHECK.due("told stays", quiz.entry(2, 3), 800);
        CHECK.due("the score behind the first", quiz.entry(1, 6), -200);
        CHECK.due("the score behind the second", quiz.entry(2, 6), 300);
        CHECK.due("score", quiz.player(0, 0), 300);
    }

    private static void rejudgeOfFinalAnswer() {
        WagerQuiz quiz = Quizzes.withScores(100, 60);
        quiz.beginFinal();
        quiz.wagerFinal(0, 100);
        quiz.wagerFinal(1, 0);
        quiz.answer(true);
        CHECK.due("score", quiz.answer(false), 0);
        CHECK.due("rejudge(3)", quiz.rejudge(3), 1);
        CHECK.due("score", quiz.player(0, 0), 200);
        CHECK.due("rejudge of a wager of 0", quiz.rejudge(2), 0);
        CHECK.due("its judgement", quiz.entry(2, 5), 0);
        CHECK.due("over it stays", quiz.count(0), 6);
    }

    private static void chainOfVoidSteals() {
        WagerQuiz quiz = withSteal(0);
        quiz.rejudge(1);
        CHECK.due("the second is right", quiz.entry(1, 4), 50);
        CHECK.due("the third is void", quiz.entry(2, 7), 1);
        quiz.rejudge(0);
        CHECK.due("the second is void", quiz.entry(1, 7), 1);
        CHECK.due("the third is void", quiz.entry(2, 7), 1);
        quiz.rejudge(1);
        quiz.rejudge(0);
        CHECK.due("the second is wrong", quiz.player(1, 0), -50);
        CHECK.due("the third is right", quiz.player(2, 0), 50);
        Quizzes.answerAlone(quiz, 1, 0, false);
        CHECK.due("the right answer to another clue voids nothing", quiz.entry(3, 7), 0);
    }
}
