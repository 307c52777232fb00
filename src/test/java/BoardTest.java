/** Promises 5 to 9: pick, buzz, answer, close, wager. */
public final class BoardTest {
    private static final Check CHECK = new Check();

    public static void main(String[] args) {
        pick();
        pickErrors();
        pickOfEveryClue();
        buzzAndLock();
        buzzAtTheEdges();
        lateEarlyBuzz();
        buzzErrors();
        queueOrder();
        answerOpenClue();
        answerRefusals();
        answerWithFullLog();
        close();
        wager();
        wagerLimitIsScore();
        wagerErrors();
        controlMayMoveBehindWager();
        buzzesEndWithTheClue();
        CHECK.finish();
    }

    private static void pick() {
        WagerQuiz quiz = Quizzes.withPlayers(2);
        quiz.setWagerClue(24, true);
        CHECK.due("pick(0, 7)", quiz.pick(0, 7), 200);
        CHECK.due("phase", quiz.count(0), 1);
        CHECK.due("clue under way", quiz.count(3), 7);
        CHECK.due("gone", quiz.clue(7, 2), 1);
        CHECK.due("clues left", quiz.count(2), 24);
        quiz.close();
        CHECK.due("pick of a wager clue", quiz.pick(0, 24), 500);
        CHECK.due("phase of a wager clue", quiz.count(0), 2);
        CHECK.due("wager clue under way", quiz.count(3), 24);
    }

    private static void pickErrors() {
        WagerQuiz quiz = Quizzes.withPlayers(2);
        CHECK.due("pick(2, 0)", quiz.pick(2, 0), Check.UNKNOWN);
        CHECK.due("pick(-1, 0)", quiz.pick(-1, 0), Check.UNKNOWN);
        CHECK.due("pick(0, -1)", quiz.pick(0, -1), Check.UNKNOWN);
        CHECK.due("pick(0, 25)", quiz.pick(0, 25), Check.UNKNOWN);
        CHECK.refused("pick without the control", quiz, quiz.pick(1, 0), 2);
        quiz.pick(0, 0);
        CHECK.refused("pick in phase 1, ahead of the control", quiz, quiz.pick(1, 0), 1);
        CHECK.due("UNKNOWN ahead of REFUSED", quiz.pick(0, 25), Check.UNKNOWN);
        quiz.close();
        CHECK.refused("pick without the control, ahead of gone", quiz, quiz.pick(1, 0), 2);
        CHECK.refused("pick of a clue that is gone", quiz, quiz.pick(0, 0), 3);
        CHECK.due("refusals are not recorded", quiz.count(12), 4);
        WagerQuiz empty = new WagerQuiz();
        CHECK.due("pick without players", empty.pick(0, 0), Check.UNKNOWN);
    }

    private static void pickOfEveryClue() {
        WagerQuiz quiz = Quizzes.withPlayers(1);
        for (int clue = 0; clue < 25; clue++) {
            CHECK.due("pick of " + clue, quiz.pick(0, clue), 100 * (clue / 5 + 1));
            quiz.close();
            CHECK.due("clues left", quiz.count(2), 24 - clue);
        }
        CHECK.due("the phase with an empty board", quiz.count(0), 0);
        CHECK.refused("pick from an empty board", quiz, quiz.pick(0, 24), 3);
    }

    private static void buzzAndLock() {
        WagerQuiz quiz = Quizzes.withPlayers(2);
        quiz.pick(0, 0);
        CHECK.due("an early buzz", quiz.buzz(0, 9), 0);
        CHECK.due("a locked buzz", quiz.buzz(0, 13), 0);
        CHECK.due("no tick counts yet", quiz.player(0, 5), Check.NONE);
        CHECK.due("a buzz when the lock ends", quiz.buzz(0, 14), 1);
        CHECK.due("its tick counts", quiz.player(0, 5), 14);
        CHECK.due("the bell itself is not early", quiz.buzz(1, 10), 2);
        CHECK.due("its tick counts", quiz.player(1, 5), 10);
        CHECK.due("a later buzz of the same player", quiz.buzz(1, 30), 2);
        CHECK.due("the least tick counts", quiz.player(1, 5), 10);
        CHECK.due("a buzz told out of order", quiz.buzz(0, 40), 2);
        CHECK.due("the least tick still counts", quiz.player(0, 5), 14);
    }

    private static void buzzAtTheEdges() {
        WagerQuiz quiz = Quizzes.withPlayers(2);
        quiz.set(0, 30);
        quiz.set(1, 30);
        quiz.pick(0, 0);
        quiz.buzz(0, 0);
        CHECK.due("the lock of tick 0 is over at the bell", quiz.buzz(0, 30), 1);
        quiz.buzz(0, 29);
        CHECK.due("the last early tick locks", quiz.queued(0), Check.NONE);
        CHECK.due("a tick short", quiz.buzz(0, 58), 0);
        CHECK.due("tick 63", quiz.buzz(0, 63), 1);
        CHECK.due("tick 64", quiz.buzz(1, 64), 2);
        CHECK.due("its tick", quiz.player(1, 5), 64);
        CHECK.due("tick 99", quiz.buzz(1, 99), 2);
        CHECK.due("tick 0 of another", quiz.buzz(1, 0), 2);
        quiz.close();
        quiz.set(0, 0);
        quiz.pick(0, 1);
        CHECK.due("tick 0 without reading", quiz.buzz(0, 0), 1);
        CHECK.due("tick 99 alone", quiz.buzz(1, 99), 2);
        CHECK.due("its tick", quiz.player(1, 5), 99);
        quiz.close();
        quiz.set(0, 10);
        quiz.set(1, 0);
        quiz.pick(0, 2);
        quiz.buzz(0, 9);
        CHECK.due("a lock of 0 locks nothing", quiz.buzz(0, 10), 1);
    }

    private static void lateEarlyBuzz() {
        WagerQuiz quiz = Quizzes.withPlayers(2);
        quiz.pick(0, 0);
        quiz.buzz(0, 11);
        quiz.buzz(0, 14);
        CHECK.due("before the early buzz is told", quiz.player(0, 5), 11);
        quiz.buzz(0, 9);
        CHECK.due("behind it", quiz.player(0, 5), 14);
        quiz.buzz(0, 8);
        CHECK.due("the latest early buzz locks longest", quiz.player(0, 5), 14);
        quiz.buzz(1, 9);
        CHECK.due("the early buzz of another locks him alone", quiz.queued(0), 0);
    }

    private static void buzzErrors() {
        WagerQuiz quiz = Quizzes.withPlayers(2);
        CHECK.refused("buzz in phase 0", quiz, quiz.buzz(0, 12), 1);
        CHECK.due("buzz(2, 12)", quiz.buzz(2, 12), Check.UNKNOWN);
        CHECK.due("buzz(-1, 12)", quiz.buzz(-1, 12), Check.UNKNOWN);
        CHECK.due("UNKNOWN ahead of BAD_VALUE", quiz.buzz(2, 100), Check.UNKNOWN);
        CHECK.due("buzz(0, 100)", quiz.buzz(0, 100), Check.BAD_VALUE);
        CHECK.due("buzz(0, -1)", quiz.buzz(0, -1), Check.BAD_VALUE);
        quiz.pick(0, 0);
        int acts = quiz.count(12);
        CHECK.due("buzz(0, 70)", quiz.buzz(0, 70), 1);
        CHECK.due("an act", quiz.count(12), acts + 1);
        CHECK.due("buzz(0, 70) again", quiz.buzz(0, 70), Check.NONE);
        CHECK.due("NONE is not recorded", quiz.count(12), acts + 1);
        CHECK.due("buzz(0, 6), which shares no tick", quiz.buzz(0, 6), 1);
        CHECK.due("buzz(0, 6) again", quiz.buzz(0, 6), Check.NONE);
        CHECK.due("buzz(1, 70) of another", quiz.buzz(1, 70), 2);
    }

    private static void queueOrder() {
        WagerQuiz quiz = Quizzes.withScores(100, -50, 100, 0);
        quiz.pick(0, 0);
        quiz.buzz(0, 20);
        quiz.buzz(1, 20);
        quiz.buzz(2, 20);
        quiz.buzz(3, 19);
        int[] due = {3, 1, 0, 2};
        for (int place = 0; place < 4; place++) {
            CHECK.due("queued(" + place + ")", quiz.queued(place), due[place]);
        }
        CHECK.due("queued(4)", quiz.queued(4), Check.NONE);
        quiz.correct(1, 300);
        CHECK.due("the order follows the scores", quiz.queued(1), 0);
        CHECK.due("the order follows the scores", quiz.queued(3), 1);
    }

    private static void answerOpenClue() {
        WagerQuiz quiz = Quizzes.quick(3);
        quiz.pick(0, 10);
        quiz.buzz(2, 1);
        quiz.buzz(1, 2);
        quiz.buzz(0, 3);
        CHECK.due("a wrong first answer", quiz.answer(false), -300);
        CHECK.due("stays open", quiz.count(0), 1);
        CHECK.due("the next one", quiz.queued(0), 1);
        CHECK.due("the tick stays to be asked for", quiz.player(2, 5), 1);
        CHECK.due("a new buzz of one who has answered", quiz.buzz(2, 0), 2);
        CHECK.due("it counts, though", quiz.player(2, 5), 0);
        CHECK.due("a right steal", quiz.answer(true), 150);
        CHECK.due("the clue is done", quiz.count(0), 0);
        CHECK.due("no clue under way", quiz.count(3), Check.NONE);
        CHECK.due("the control", quiz.count(4), 1);
        CHECK.due("entries", quiz.count(5), 2);
        CHECK.due("a right first answer", quiz.pick(1, 0), 100);
        quiz.buzz(0, 0);
        CHECK.due("its score", quiz.answer(true), 100);
        CHECK.due("the clue is done", quiz.count(0), 0);
    }

    private static void answerRefusals() {
        WagerQuiz quiz = Quizzes.withPlayers(1);
        CHECK.refused("answer in phase 0", quiz, quiz.answer(true), 1);
        quiz.pick(0, 0);
        CHECK.refused("answer without a queue", quiz, quiz.answer(true), 4);
        quiz.buzz(0, 3);
        CHECK.refused("answer with an early buzz alone", quiz, quiz.answer(false), 4);
        quiz.buzz(0, 30);
        quiz.answer(false);
        CHECK.refused("answer when all have answered", quiz, quiz.answer(false), 4);
        WagerQuiz wager = Quizzes.atWagerClue(1);
        CHECK.refused("answer in phase 2", wager, wager.answer(true), 1);
        WagerQuiz last = Quizzes.withScores(5);
        last.beginFinal();
        CHECK.refused("answer in phase 4", last, last.answer(true), 1);
        last.wagerFinal(0, 5);
        last.answer(true);
        CHECK.refused("answer in phase 6", last, last.answer(true), 1);
    }

    private static void answerWithFullLog() {
        WagerQuiz quiz = Quizzes.withPlayers(2);
        quiz.setWagerClue(1, true);
        Quizzes.fillLog(quiz);
        CHECK.due("60 entries", quiz.count(5), 60);
        quiz.pick(0, 0);
        CHECK.refused("the queue ahead of the log", quiz, quiz.answer(true), 4);
        quiz.buzz(1, 30);
        CHECK.refused("answer with a full log", quiz, quiz.answer(true), 7);
        CHECK.due("still open", quiz.count(0), 1);
        quiz.close();
        quiz.pick(0, 1);
        quiz.wager(5);
        CHECK.refused("answer of a wager clue with a full log", quiz, quiz.answer(true), 7);
        CHECK.due("still to be answered", quiz.count(0), 3);
    }

    private static void close() {
        WagerQuiz quiz = Quizzes.quick(3);
        CHECK.refused("close in phase 0", quiz, quiz.close(), 1);
        quiz.pick(0, 0);
        CHECK.due("close without answers", quiz.close(), 0);
        CHECK.due("phase", quiz.count(0), 0);
        CHECK.due("gone", quiz.clue(0, 2), 1);
        quiz.pick(0, 1);
        quiz.buzz(0, 1);
        quiz.buzz(1, 2);
        quiz.buzz(2, 3);
        quiz.answer(false);
        quiz.answer(false);
        CHECK.due("close behind two answers", quiz.close(), 2);
        CHECK.due("an act", quiz.count(12), 5);
        WagerQuiz wager = Quizzes.atWagerClue(1);
        CHECK.refused("close in phase 2", wager, wager.close(), 1);
        wager.wager(0);
        CHECK.refused("close in phase 3", wager, wager.close(), 1);
    }

    private static void wager() {
        WagerQuiz quiz = Quizzes.atWagerClue(2);
        CHECK.refused("buzz to a wager clue", quiz, quiz.buzz(0, 20), 1);
        CHECK.refused("a wager beyond 500", quiz, quiz.wager(501), 5);
        CHECK.due("the phase stays", quiz.count(0), 2);
        CHECK.due("a wager of 500", quiz.wager(500), 500);
        CHECK.due("phase", quiz.count(0), 3);
        CHECK.due("clue under way", quiz.count(3), 6);
        CHECK.refused("a second wager", quiz, quiz.wager(1), 1);
        CHECK.due("a wrong answer", quiz.answer(false), -500);
        CHECK.due("phase", quiz.count(0), 0);
        CHECK.due("sort", quiz.entry(0, 1), 2);
        CHECK.due("clue", quiz.entry(0, 2), 6);
        CHECK.due("told", quiz.entry(0, 3), 500);
        WagerQuiz right = Quizzes.atWagerClue(2);
        right.wager(0);
        CHECK.due("a right answer for 0", right.answer(true), 0);
        CHECK.due("answers", right.clue(6, 3), 1);
        CHECK.due("solver", right.clue(6, 4), 0);
    }

    private static void wagerLimitIsScore() {
        WagerQuiz quiz = Quizzes.withScores(501, 9000);
        quiz.setWagerClue(6, true);
        quiz.pick(0, 6);
        CHECK.refused("a wager beyond the score", quiz, quiz.wager(502), 5);
        CHECK.due("a wager of the score", quiz.wager(501), 501);
        CHECK.due("a right answer", quiz.answer(true), 1002);
        WagerQuiz poor = Quizzes.withScores(-700, 9000);
        poor.setWagerClue(6, true);
        poor.pick(0, 6);
        CHECK.due("the limit of the poor", poor.wager(10), 500);
    }

    private static void wagerErrors() {
        WagerQuiz quiz = new WagerQuiz();
        CHECK.refused("wager in phase 0", quiz, quiz.wager(100000), 1);
        CHECK.due("wager(-1)", quiz.wager(-1), Check.BAD_VALUE);
        CHECK.due("wager(100001)", quiz.wager(100001), Check.BAD_VALUE);
        WagerQuiz open = Quizzes.withPlayers(1);
        open.pick(0, 0);
        CHECK.refused("wager in phase 1", open, open.wager(1), 1);
        WagerQuiz rich = Quizzes.withPlayers(1);
        rich.setWagerClue(0, true);
        for (int i = 0; i < 11; i++) {
            rich.correct(0, 10000);
        }
        rich.pick(0, 0);
        CHECK.due("wager beyond 100000", rich.wager(100001), Check.BAD_VALUE);
        CHECK.due("wager of 100000", rich.wager(100000), 110000);
    }

    private static void controlMayMoveBehindWager() {
        WagerQuiz quiz = Quizzes.quick(2);
        quiz.setWagerClue(6, true);
        quiz.pick(0, 0);
        quiz.buzz(1, 0);
        quiz.answer(true);
        quiz.pick(1, 6);
        quiz.correct(0, 600);
        quiz.rejudge(0);
        CHECK.due("the limit is that of the control now", quiz.wager(550), 600);
        quiz.rejudge(0);
        CHECK.due("the answer is that of the control now", quiz.answer(true), 600);
        CHECK.due("its player", quiz.entry(2, 0), 1);
        CHECK.due("its told amount", quiz.entry(2, 3), 550);
        CHECK.due("its amount", quiz.entry(2, 4), 500);
    }

    private static void buzzesEndWithTheClue() {
        WagerQuiz quiz = Quizzes.quick(2);
        quiz.pick(0, 0);
        quiz.buzz(0, 70);
        quiz.buzz(1, 7);
        quiz.close();
        CHECK.due("no tick behind the clue", quiz.player(0, 5), Check.NONE);
        CHECK.due("no queue behind the clue", quiz.queued(0), Check.NONE);
        quiz.pick(0, 1);
        CHECK.due("no tick of the clue before", quiz.player(0, 5), Check.NONE);
        CHECK.due("the buzz is new", quiz.buzz(0, 70), 1);
        CHECK.due("the buzz is new", quiz.buzz(1, 7), 2);
    }
}
