/** Quizzes that stand at a place where tests begin. */
final class Quizzes {
    private Quizzes() {
    }

    static WagerQuiz withPlayers(int players) {
        WagerQuiz quiz = new WagerQuiz();
        for (int i = 0; i < players; i++) {
            quiz.addPlayer();
        }
        return quiz;
    }

    /** A quiz with no reading time, so that the tick 0 counts. */
    static WagerQuiz quick(int players) {
        WagerQuiz quiz = withPlayers(players);
        quiz.set(0, 0);
        return quiz;
    }

    /** The player who has the control picks the clue; then the player buzzes and answers alone. */
    static void answerAlone(WagerQuiz quiz, int clue, int player, boolean right) {
        quiz.pick(quiz.count(4), clue);
        quiz.buzz(player, 50);
        quiz.answer(right);
        if (quiz.count(0) == 1) {
            quiz.close();
        }
    }

    /** A quiz with the wager clue 6 picked by the player 0. */
    static WagerQuiz atWagerClue(int players) {
        WagerQuiz quiz = withPlayers(players);
        quiz.setWagerClue(6, true);
        quiz.pick(0, 6);
        return quiz;
    }

    /** A quiz whose scores are made by corrections. */
    static WagerQuiz withScores(int... scores) {
        WagerQuiz quiz = withPlayers(scores.length);
        for (int i = 0; i < scores.length; i++) {
            if (scores[i] != 0) {
                quiz.correct(i, scores[i]);
            }
        }
        return quiz;
    }

    static void fillLog(WagerQuiz quiz) {
        while (quiz.count(5) < 60) {
            quiz.correct(0, 0);
        }
    }

    static int typeAll(WagerQuiz quiz, String text) {
        quiz.clearText();
        for (int i = 0; i < text.length(); i++) {
            quiz.type(text.charAt(i));
        }
        return quiz.count(13);
    }

    static int run(WagerQuiz quiz, String text) {
        typeAll(quiz, text);
        return quiz.runScript();
    }

    static String message(WagerQuiz quiz) {
        StringBuilder read = new StringBuilder();
        for (int i = 0; i < 200 && quiz.messageAt(i) >= 0; i++) {
            read.append((char) quiz.messageAt(i));
        }
        return read.toString();
    }

    /** The state as it can be asked for: all but the reason, the history and the text. */
    static String picture(WagerQuiz quiz) {
        StringBuilder seen = new StringBuilder();
        for (int what = 0; what <= 14; what++) {
            if (what < 11 || what > 13) {
                seen.append(quiz.count(what)).append(' ');
            }
        }
        for (int player = 0; player < quiz.count(1); player++) {
            for (int what = 0; what <= 7; what++) {
                seen.append(quiz.player(player, what)).append(' ');
            }
            seen.append(quiz.queued(player)).append(' ');
            seen.append(quiz.safeWager(player)).append(' ');
        }
        for (int clue = 0; clue < 25; clue++) {
            for (int what = 0; what <= 4; what++) {
                seen.append(quiz.clue(clue, what)).append(' ');
            }
        }
        for (int entry = 0; entry < quiz.count(5); entry++) {
            for (int what = 0; what <= 7; what++) {
                seen.append(quiz.entry(entry, what)).append(' ');
            }
        }
        return seen.toString();
    }
}
