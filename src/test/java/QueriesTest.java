/** Promises 21 to 27: player, ordered, queued, clue, entry, count, messageAt. */
public final class QueriesTest {
    private static final Check CHECK = new Check();

    public static void main(String[] args) {
        player();
        ranks();
        orderedByAnswers();
        ordered();
        queued();
        clue();
        entry();
        entryErrors();
        count();
        countOfScores();
        messageAt();
        messageOfManyPlayers();
        queriesChangeNothing();
        CHECK.finish();
    }

    private static void player() {
        WagerQuiz quiz = Quizzes.quick(3);
        Quizzes.run(quiz, "p24b110b211b012--+");
        quiz.correct(1, 30);
        quiz.correct(1, -10);
        long[][] due = {
            {250, 1, 0, 1, 0, Check.NONE, Check.NONE, 0},
            {-480, 0, 1, 3, 2, Check.NONE, Check.NONE, 20},
            {-250, 0, 1, 2, 1, Check.NONE, Check.NONE, 0},
        };
        for (int player = 0; player < 3; player++) {
            for (int what = 0; what < 8; what++) {
                CHECK.due("player(" + player + ", " + what + ")", quiz.player(player, what), due[player][what]);
            }
        }
        CHECK.due("player(0, 8)", quiz.player(0, 8), Check.BAD_VALUE);
        CHECK.due("player(0, -1)", quiz.player(0, -1), Check.BAD_VALUE);
        CHECK.due("player(3, 0)", quiz.player(3, 0), Check.UNKNOWN);
        CHECK.due("player(-1, 0)", quiz.player(-1, 0), Check.UNKNOWN);
        CHECK.due("UNKNOWN ahead of BAD_VALUE", quiz.player(3, 8), Check.UNKNOWN);
    }

    private static void ranks() {
        WagerQuiz quiz = Quizzes.withScores(10, 30, 10, 40, 30, -5);
        int[] ranks = {4, 2, 4, 1, 2, 6};
        int[] places = {3, 1, 4, 0, 2, 5};
        for (int player = 0; player < 6; player++) {
            CHECK.due("rank of " + player, quiz.player(player, 3), ranks[player]);
            CHECK.due("place of " + player, quiz.player(player, 4), places[player]);
            CHECK.due("player at the place of " + player, quiz.ordered(places[player]), player);
        }
        CHECK.due("ordered(6)", quiz.ordered(6), Check.NONE);
    }

    private static void orderedByAnswers() {
        WagerQuiz quiz = Quizzes.quick(4);
        Quizzes.answerAlone(quiz, 0, 3, true);
        Quizzes.answerAlone(quiz, 1, 3, false);
        Quizzes.answerAlone(quiz, 2, 2, false);
        quiz.correct(2, 100);
        int[] more = {3, 0, 1, 2};
        for (int place = 0; place < 4; place++) {
            CHECK.due("more right ones, then fewer wrong ones", quiz.ordered(place), more[place]);
            CHECK.due("one rank for all", quiz.player(place, 3), 1);
        }
        quiz.correct(2, 1);
        CHECK.due("a greater score first", quiz.ordered(0), 2);
        CHECK.due("the rank of the others", quiz.player(3, 3), 2);
    }

    private static void ordered() {
        WagerQuiz quiz = Quizzes.withPlayers(2);
        CHECK.due("ordered(0)", quiz.ordered(0), 0);
        CHECK.due("ordered(1)", quiz.ordered(1), 1);
        CHECK.due("ordered(2)", quiz.ordered(2), Check.NONE);
        CHECK.due("ordered of the greatest int", quiz.ordered(Integer.MAX_VALUE), Check.NONE);
        CHECK.due("ordered(-1)", quiz.ordered(-1), Check.BAD_VALUE);
        CHECK.due("ordered of the least int", quiz.ordered(Integer.MIN_VALUE), Check.BAD_VALUE);
        CHECK.due("ordered(-1) without players", new WagerQuiz().ordered(-1), Check.BAD_VALUE);
    }

    private static void queued() {
        WagerQuiz quiz = Quizzes.quick(3);
        CHECK.due("queued(0) in phase 0", quiz.queued(0), Check.NONE);
        CHECK.due("queued(-1) in phase 0", quiz.queued(-1), Check.BAD_VALUE);
        Quizzes.run(quiz, "p00b203b104");
        CHECK.due("queued(0)", quiz.queued(0), 2);
        CHECK.due("queued(1)", quiz.queued(1), 1);
        CHECK.due("queued(2)", quiz.queued(2), Check.NONE);
        CHECK.due("queued(-1)", quiz.queued(-1), Check.BAD_VALUE);
        quiz.answer(false);
        CHECK.due("queued(0) behind an answer", quiz.queued(0), 1);
        CHECK.due("queued(1) behind an answer", quiz.queued(1), Check.NONE);
        quiz.answer(true);
        CHECK.due("queued(0) behind the clue", quiz.queued(0), Check.NONE);
    }

    private static void clue() {
        WagerQuiz quiz = Quizzes.quick(3);
        quiz.setWagerClue(13, true);
        for (int clue = 0; clue < 25; clue++) {
            CHECK.due("clue(" + clue + ", 0)", quiz.clue(clue, 0), 100 * (1 + clue / 5));
            CHECK.due("clue(" + clue + ", 1)", quiz.clue(clue, 1), clue == 13 ? 1 : 0);
        }
        Quizzes.run(quiz, "p00b003b204");
        CHECK.due("gone when picked", quiz.clue(0, 2), 1);
        CHECK.due("another is not gone", quiz.clue(1, 2), 0);
        CHECK.due("no answers", quiz.clue(0, 3), 0);
        quiz.answer(false);
        CHECK.due("one answer", quiz.clue(0, 3), 1);
        CHECK.due("a wrong one", quiz.clue(0, 4), Check.NONE);
        quiz.answer(true);
        CHECK.due("two answers", quiz.clue(0, 3), 2);
        CHECK.due("a right one", quiz.clue(0, 4), 2);
        CHECK.due("other clues have none", quiz.clue(1, 3), 0);
        Quizzes.run(quiz, "p13w0001-");
        CHECK.due("a wager clue stays one", quiz.clue(13, 1), 1);
        CHECK.due("its answers", quiz.clue(13, 3), 1);
        CHECK.due("a wrong one", quiz.clue(13, 4), Check.NONE);
        quiz.rejudge(2);
        CHECK.due("a right one", quiz.clue(13, 4), 2);
        CHECK.due("clue(25, 0)", quiz.clue(25, 0), Check.UNKNOWN);
        CHECK.due("clue(-1, 0)", quiz.clue(-1, 0), Check.UNKNOWN);
        CHECK.due("UNKNOWN ahead of BAD_VALUE", quiz.clue(25, 5), Check.UNKNOWN);
        CHECK.due("clue(0, 5)", quiz.clue(0, 5), Check.BAD_VALUE);
        CHECK.due("clue(0, -1)", quiz.clue(0, -1), Check.BAD_VALUE);
    }

    private static void entry() {
        WagerQuiz quiz = Quizzes.quick(2);
        quiz.setWagerClue(9, true);
        Quizzes.run(quiz, "p22b005b106-+p09w0300+");
        quiz.correct(0, 600);
        quiz.beginFinal();
        quiz.wagerFinal(0, 60);
        quiz.wagerFinal(1, 70);
        quiz.answer(true);
        quiz.answer(false);
        long[][] due = {
            {0, 0, 22, 500, 500, 0, -500, 0},
            {1, 1, 22, 250, 250, 1, 250, 0},
            {1, 2, 9, 300, 300, 1, 550, 0},
            {0, 4, Check.NONE, 600, 600, Check.NONE, 100, 0},
            {0, 3, Check.NONE, 60, 60, 1, 160, 0},
            {1, 3, Check.NONE, 70, 70, 0, 480, 0},
        };
        for (int entry = 0; entry < due.length; entry++) {
            for (int what = 0; what < 8; what++) {
                CHECK.due("entry(" + entry + ", " + what + ")", quiz.entry(entry, what), due[entry][what]);
            }
        }
    }

    private static void entryErrors() {
        WagerQuiz quiz = Quizzes.withScores(5);
        CHECK.due("entry(1, 0)", quiz.entry(1, 0), Check.UNKNOWN);
        CHECK.due("entry(-1, 0)", quiz.entry(-1, 0), Check.UNKNOWN);
        CHECK.due("UNKNOWN ahead of BAD_VALUE", quiz.entry(1, 8), Check.UNKNOWN);
        CHECK.due("entry(0, 8)", quiz.entry(0, 8), Check.BAD_VALUE);
        CHECK.due("entry(0, -1)", quiz.entry(0, -1), Check.BAD_VALUE);
        quiz.undo();
        CHECK.due("entry(0, 0) when undone", quiz.entry(0, 0), Check.UNKNOWN);
    }

    private static void count() {
        WagerQuiz quiz = Quizzes.withPlayers(2);
        quiz.set(0, 1);
        quiz.set(1, 2);
        quiz.set(2, 3);
        quiz.type('n');
        quiz.close();
        long[] due = {0, 2, 25, Check.NONE, 0, 0, 3, 0, 1, 2, 3, 1, 5, 1, Check.NONE};
        for (int what = 0; what < due.length; what++) {
            CHECK.due("count(" + what + ")", quiz.count(what), due[what]);
        }
        CHECK.due("count(15)", quiz.count(15), Check.BAD_VALUE);
        CHECK.due("count(-1)", quiz.count(-1), Check.BAD_VALUE);
        WagerQuiz wager = Quizzes.atWagerClue(1);
        CHECK.due("the clue in phase 2", wager.count(3), 6);
        wager.wager(0);
        CHECK.due("the clue in phase 3", wager.count(3), 6);
        wager.answer(true);
        CHECK.due("the clue in phase 0", wager.count(3), Check.NONE);
        wager.correct(0, 10);
        wager.beginFinal();
        CHECK.due("the clue in phase 4", wager.count(3), Check.NONE);
        CHECK.due("next in phase 4", wager.count(14), Check.NONE);
        wager.wagerFinal(0, 0);
        CHECK.due("the clue in phase 5", wager.count(3), Check.NONE);
        CHECK.due("next in phase 5", wager.count(14), 0);
        wager.answer(true);
        CHECK.due("the clue in phase 6", wager.count(3), Check.NONE);
        CHECK.due("next in phase 6", wager.count(14), Check.NONE);
    }

    private static void countOfScores() {
        WagerQuiz quiz = Quizzes.withScores(10, 40, -5, 40, 0, 40);
        CHECK.due("the greatest scores", quiz.count(6), 2 + 8 + 32);
        CHECK.due("the sum", quiz.count(7), 125);
        WagerQuiz poor = Quizzes.withScores(-10, -20);
        CHECK.due("the greatest negative score", poor.count(6), 1);
        CHECK.due("the negative sum", poor.count(7), -30);
        WagerQuiz two = Quizzes.withScores(-10, -10, -11);
        CHECK.due("players who are not there don't count", two.count(6), 3);
    }

    private static void message(WagerQuiz quiz, String due) {
        String got = Quizzes.message(quiz);
        CHECK.holds("the message is '" + got + "', due is '" + due + "'", got.equals(due));
        CHECK.due("behind the message", quiz.messageAt(due.length()), Check.NONE);
    }

    private static void messageAt() {
        WagerQuiz quiz = new WagerQuiz();
        message(quiz, "phase 0");
        CHECK.due("messageAt(-1)", quiz.messageAt(-1), Check.BAD_VALUE);
        CHECK.due("messageAt of the least int", quiz.messageAt(Integer.MIN_VALUE), Check.BAD_VALUE);
        CHECK.due("messageAt of the greatest int", quiz.messageAt(Integer.MAX_VALUE), Check.NONE);
        CHECK.due("messageAt(0)", quiz.messageAt(0), 'p');
        quiz.addPlayer();
        message(quiz, "phase 0; p0 0");
        quiz.pick(0, 0);
        quiz.buzz(0, 40);
        quiz.answer(false);
        message(quiz, "phase 1; p0 -100");
    }

    private static void messageOfManyPlayers() {
        WagerQuiz quiz = Quizzes.withScores(7, -10, 1234, 7, 0, -9999);
        message(quiz, "phase 0; p2 1234; p0 7; p3 7; p4 0; p1 -10; p5 -9999");
        quiz.beginFinal();
        message(quiz, "phase 4; p2 1234; p0 7; p3 7; p4 0; p1 -10; p5 -9999");
    }

    private static void queriesChangeNothing() {
        WagerQuiz quiz = Quizzes.quick(3);
        Quizzes.run(quiz, "p00b003b204-");
        int acts = quiz.count(12);
        String picture = Quizzes.picture(quiz);
        Quizzes.message(quiz);
        CHECK.holds("the same picture twice", Quizzes.picture(quiz).equals(picture));
        CHECK.due("no acts", quiz.count(12), acts);
        CHECK.due("no reason", quiz.count(11), 0);
    }
}
