/** Promises 15 to 17: type, clearText, runScript. */
public final class ScriptTest {
    private static final Check CHECK = new Check();

    public static void main(String[] args) {
        type();
        clearText();
        faults();
        faultsChangeNothing();
        wholeRound();
        stopsAtTheFirstError();
        toldBuzzIsAMove();
        scriptWithoutPlayers();
        oneAct();
        longestScript();
        picksByTheControl();
        CHECK.finish();
    }

    private static void type() {
        WagerQuiz quiz = new WagerQuiz();
        char[] any = {0, ' ', 'p', 255, 256, 65535};
        for (int i = 0; i < 70; i++) {
            CHECK.due("type", quiz.type(any[i % any.length]), i + 1);
        }
        CHECK.due("type of the 71st", quiz.type('n'), Check.FULL);
        CHECK.due("length", quiz.count(13), 70);
        CHECK.due("no act", quiz.count(12), 0);
        CHECK.due("no reason", quiz.count(11), 0);
    }

    private static void clearText() {
        WagerQuiz quiz = new WagerQuiz();
        CHECK.due("clearText of nothing", quiz.clearText(), 0);
        quiz.type('n');
        quiz.type('n');
        CHECK.due("clearText", quiz.clearText(), 2);
        CHECK.due("length", quiz.count(13), 0);
        CHECK.due("clearText again", quiz.clearText(), 0);
        CHECK.due("no act", quiz.count(12), 0);
        CHECK.due("type begins anew", quiz.type('p'), 1);
        CHECK.due("the old text is gone", quiz.runScript(), -101);
    }

    private static void fault(String text, int fault) {
        CHECK.due("the fault of '" + text + "'", Quizzes.run(Quizzes.withPlayers(1), text), -100 - fault);
    }

    private static void faults() {
        fault("", 0);
        fault("x", 0);
        fault("0", 0);
        fault("P00", 0);
        fault("p", 1);
        fault("pn", 1);
        fault("p3", 1);
        fault("p9", 1);
        fault("p/", 1);
        fault("p0", 2);
        fault("p2", 2);
        fault("p25", 2);
        fault("p29", 2);
        fault("p0:", 2);
        fault("p1n", 2);
        fault("b", 1);
        fault("b6", 1);
        fault("bn", 1);
        fault("b0", 2);
        fault("b0x", 2);
        fault("b01", 3);
        fault("b01+", 3);
        fault("w", 1);
        fault("w123", 4);
        fault("w123n", 4);
        fault("w12n4", 3);
        fault("w1/34", 2);
        fault("+-n ", 3);
        fault("+ p00", 1);
        fault("nnp00p", 6);
        fault("p00b0120", 7);
        fault("p00n" + (char) 65535, 4);
        fault("b5" + (char) 0x660 + "1", 2);
        String[] fine = {"p00", "p19", "p20", "p24", "b000", "b599", "w0000", "w9999", "+", "-", "n", "nn+"};
        for (String text : fine) {
            CHECK.due("no fault in '" + text + "'", Quizzes.run(new WagerQuiz(), text), 0);
        }
    }

    private static void faultsChangeNothing() {
        WagerQuiz quiz = Quizzes.withPlayers(2);
        CHECK.due("a fault at the end", Quizzes.run(quiz, "p00b012p"), -108);
        CHECK.due("nothing is picked", quiz.count(0), 0);
        CHECK.due("no act", quiz.count(12), 2);
        CHECK.due("no reason", quiz.count(11), 0);
        CHECK.due("the text stays", quiz.count(13), 8);
    }

    private static void wholeRound() {
        WagerQuiz quiz = Quizzes.withPlayers(3);
        quiz.setWagerClue(17, true);
        CHECK.due("a script", Quizzes.run(quiz, "p24b210b111-+p17w0499-p03n"), 10);
        CHECK.due("phase", quiz.count(0), 0);
        CHECK.due("clues left", quiz.count(2), 22);
        CHECK.due("score 2", quiz.player(2, 0), -500);
        CHECK.due("score 1", quiz.player(1, 0), 250 - 499);
        CHECK.due("entries", quiz.count(5), 3);
        CHECK.due("the text stays", quiz.count(13), 26);
        CHECK.due("one act", quiz.count(12), 5);
        quiz.undo();
        CHECK.due("undone as a whole", quiz.count(2), 25);
        CHECK.due("the text is not undone", quiz.count(13), 26);
        CHECK.due("again", quiz.runScript(), 10);
        CHECK.due("once more, with the clue gone", quiz.runScript(), 0);
        CHECK.due("its reason", quiz.count(11), 3);
    }

    private static void stopsAtTheFirstError() {
        WagerQuiz quiz = Quizzes.withPlayers(2);
        CHECK.due("stops at the second pick", Quizzes.run(quiz, "p01p02n"), 1);
        CHECK.due("phase", quiz.count(0), 1);
        CHECK.due("a refused move sets the reason", quiz.count(11), 1);
        CHECK.due("stops at an unknown player", Quizzes.run(quiz, "b010b210b110"), 1);
        CHECK.due("UNKNOWN sets no reason", quiz.count(11), 1);
        CHECK.due("stops at an empty queue", Quizzes.run(quiz, "--n"), 1);
        CHECK.due("its reason", quiz.count(11), 4);
        CHECK.due("still open", quiz.count(0), 1);
        WagerQuiz wager = Quizzes.atWagerClue(1);
        CHECK.due("stops at the limit", Quizzes.run(wager, "w0501+"), 0);
        CHECK.due("its reason", wager.count(11), 5);
        CHECK.due("the limit itself", Quizzes.run(wager, "w0500+"), 2);
        CHECK.due("score", wager.player(0, 0), 500);
    }

    private static void toldBuzzIsAMove() {
        WagerQuiz quiz = Quizzes.withPlayers(2);
        CHECK.due("a buzz told twice", Quizzes.run(quiz, "p00b012b012b112n"), 5);
        CHECK.due("phase", quiz.count(0), 0);
    }

    private static void scriptWithoutPlayers() {
        WagerQuiz quiz = new WagerQuiz();
        CHECK.due("a pick without players", Quizzes.run(quiz, "p00"), 0);
        CHECK.due("it is unknown, not refused", quiz.count(11), 0);
        CHECK.due("an act all the same", quiz.count(12), 1);
        CHECK.due("a wrong answer in phase 0", Quizzes.run(quiz, "-"), 0);
        CHECK.due("its reason", quiz.count(11), 1);
    }

    private static void oneAct() {
        WagerQuiz quiz = Quizzes.withPlayers(1);
        CHECK.due("first move refused", Quizzes.run(quiz, "n"), 0);
        CHECK.due("an act", quiz.count(12), 2);
        CHECK.due("four moves", Quizzes.run(quiz, "p00b030-n"), 4);
        CHECK.due("one act more", quiz.count(12), 3);
        CHECK.due("undo", quiz.undo(), 2);
        CHECK.due("nothing picked", quiz.count(2), 25);
        CHECK.due("no entry", quiz.count(5), 0);
        CHECK.due("score", quiz.player(0, 0), 0);
    }

    private static void longestScript() {
        WagerQuiz quiz = Quizzes.withPlayers(1);
        StringBuilder text = new StringBuilder("p00n");
        for (int clue = 1; clue < 17; clue++) {
            text.append('p').append(clue / 10).append(clue % 10).append('n');
        }
        CHECK.due("length", Quizzes.typeAll(quiz, text.append("++").toString()), 70);
        CHECK.due("34 moves", quiz.runScript(), 34);
        CHECK.due("clues left", quiz.count(2), 8);
        text.setLength(69);
        CHECK.due("a move that fits not", Quizzes.run(Quizzes.withPlayers(1), text.append('b').toString()), -170);
    }

    private static void picksByTheControl() {
        WagerQuiz quiz = Quizzes.withPlayers(3);
        CHECK.due("the control moves under way", Quizzes.run(quiz, "p00b210+p01b110+p02"), 7);
        CHECK.due("the control", quiz.count(4), 1);
        CHECK.due("under way", quiz.count(3), 2);
    }
}
