import java.util.Random;

/** Runs of mixed calls, each answer compared with that of the model. The seeds are fixed, so every run is the same. */
public final class ModelTest {
    private static final int RUNS = 3000;
    // A script types up to 16 characters behind this many calls; an object is used for 512 at most.
    private static final int CALLS = 490;
    private static final Check CHECK = new Check();

    private final WagerQuiz quiz = new WagerQuiz();
    private final Model model = new Model();
    private final Random random;
    private final int run;
    // How much the run leans to corrections, wrong arguments and history, so that runs differ.
    private final int corrections;
    private final int strange;
    private final int backwards;
    private int calls;

    private ModelTest(int run) {
        this.run = run;
        random = new Random(run);
        corrections = random.nextInt(8);
        strange = random.nextInt(20);
        backwards = random.nextInt(6);
    }

    public static void main(String[] args) {
        for (int run = 0; run < RUNS; run++) {
            new ModelTest(run).play();
        }
        CHECK.finish();
    }

    private void play() {
        int players = random.nextInt(7);
        for (int i = 0; i < players; i++) {
            due("addPlayer()", quiz.addPlayer(), model.addPlayer());
        }
        int wagers = random.nextInt(12);
        for (int i = 0; i < wagers; i++) {
            int clue = random.nextInt(25);
            due("setWagerClue(" + clue + ")", quiz.setWagerClue(clue, true), model.setWagerClue(clue, true));
        }
        while (calls < CALLS) {
            if (random.nextInt(3) == 0) {
                ask();
            } else {
                act();
            }
        }
    }

    private void due(String call, int got, int want) {
        calls++;
        CHECK.due("run " + run + ", call " + calls + ": " + call, got, want);
    }

    private int below(int bound) {
        return random.nextInt(Math.max(bound, 1));
    }

    /** Mostly a number from 0 to bound - 1, at times one beyond. */
    private int about(int bound) {
        if (below(100) < strange) {
            int[] beyond = {-1, bound, bound + 1, Integer.MIN_VALUE, Integer.MAX_VALUE, -bound};
            return beyond[below(beyond.length)];
        }
        return below(bound);
    }

    private void act() {
        int choice = below(40);
        if (choice < backwards) {
            turnBack();
        } else if (choice < 6 + corrections) {
            change();
        } else if (choice < 16) {
            script();
        } else {
            goOn();
        }
    }

    private void turnBack() {
        int slot = about(2);
        switch (below(4)) {
            case 0 -> due("keep(" + slot + ")", quiz.keep(slot), model.keep(slot));
            case 1 -> due("restore(" + slot + ")", quiz.restore(slot), model.restore(slot));
            default -> due("undo()", quiz.undo(), model.undo());
        }
    }

    private void change() {
        switch (below(6)) {
            case 0 -> {
                int what = about(3);
                int value = about(what == 2 ? 101 : 31);
                due("set(" + what + ", " + value + ")", quiz.set(what, value), model.set(what, value));
            }
            case 1, 2 -> {
                int entry = about(model.count(5));
                due("rejudge(" + entry + ")", quiz.rejudge(entry), model.rejudge(entry));
            }
            case 3 -> due("addPlayer()", quiz.addPlayer(), model.addPlayer());
            default -> {
                int player = about(model.count(1));
                int[] amounts = {about(10001), -about(10001), 100 * below(20), 100, -200, 0, 10000};
                int amount = amounts[below(amounts.length)];
                due("correct(" + player + ", " + amount + ")", quiz.correct(player, amount),
                        model.correct(player, amount));
            }
        }
    }

    /** A call that fits the phase. */
    private void goOn() {
        boolean right = random.nextBoolean();
        switch (model.count(0)) {
            case 0 -> {
                if (below(30) == 0) {
                    due("beginFinal()", quiz.beginFinal(), model.beginFinal());
                } else {
                    pick();
                }
            }
            case 1 -> {
                if (below(12) == 0) {
                    due("close()", quiz.close(), model.close());
                } else if (below(3) == 0) {
                    due("answer(" + right + ")", quiz.answer(right), model.answer(right));
                } else {
                    buzz();
                }
            }
            case 2 -> {
                int amount = below(5) == 0 ? about(100001) : about(700);
                due("wager(" + amount + ")", quiz.wager(amount), model.wager(amount));
            }
            case 4 -> {
                int player = about(model.count(1));
                int amount = below(3) == 0 ? about(100001) : about(model.player(player, 0) + 2);
                due("wagerFinal(" + player + ", " + amount + ")", quiz.wagerFinal(player, amount),
                        model.wagerFinal(player, amount));
            }
            default -> {
                if (below(10) == 0) {
                    due("undo()", quiz.undo(), model.undo());
                } else {
                    due("answer(" + right + ")", quiz.answer(right), model.answer(right));
                }
            }
        }
    }

    private void pick() {
        int player = below(6) == 0 ? about(model.count(1)) : model.count(4);
        int clue = about(25);
        due("pick(" + player + ", " + clue + ")", quiz.pick(player, clue), model.pick(player, clue));
    }

    private void buzz() {
        int player = about(model.count(1));
        int tick = below(4) == 0 ? about(100) : Math.max(0, model.count(8) - 4 + below(12));
        due("buzz(" + player + ", " + tick + ")", quiz.buzz(player, tick), model.buzz(player, tick));
    }

    private void type(String moves) {
        for (int i = 0; i < moves.length(); i++) {
            char sign = moves.charAt(i);
            due("type(" + (int) sign + ")", quiz.type(sign), model.type(sign));
        }
    }

    private void script() {
        if (below(8) == 0) {
            due("clearText()", quiz.clearText(), model.clearText());
        }
        int moves = below(4);
        for (int i = 0; i < moves; i++) {
            String[] fine = {digits("p", below(26), 2), digits("b" + below(model.count(1)), below(30), 2),
                digits("w", below(600), 4), "+", "-", "n"};
            type(fine[below(fine.length)]);
        }
        if (below(100) < strange) {
            type(Character.toString("0123456789pbwn+- x".charAt(below(18))));
        }
        if (below(3) == 0) {
            due("runScript()", quiz.runScript(), model.runScript());
        }
        if (below(3) == 0) {
            due("clearText()", quiz.clearText(), model.clearText());
        }
    }

    private static String digits(String sign, int number, int length) {
        StringBuilder text = new StringBuilder().append(number);
        while (text.length() < length) {
            text.insert(0, '0');
        }
        return sign + text;
    }

    private void ask() {
        int player = about(model.count(1));
        int clue = about(25);
        int entry = about(model.count(5));
        int place = about(7);
        int what = about(8);
        switch (below(9)) {
            case 0, 1 -> due("player(" + player + ", " + what + ")", quiz.player(player, what),
                    model.player(player, what));
            case 2 -> due("ordered(" + place + ")", quiz.ordered(place), model.ordered(place));
            case 3 -> due("queued(" + place + ")", quiz.queued(place), model.queued(place));
            case 4 -> due("clue(" + clue + ", " + place + ")", quiz.clue(clue, place), model.clue(clue, place));
            case 5 -> due("entry(" + entry + ", " + what + ")", quiz.entry(entry, what), model.entry(entry, what));
            case 6 -> {
                int number = about(15);
                due("count(" + number + ")", quiz.count(number), model.count(number));
            }
            case 7 -> {
                int index = about(80);
                due("messageAt(" + index + ")", quiz.messageAt(index), model.messageAt(index));
            }
            default -> due("safeWager(" + player + ")", quiz.safeWager(player), model.safeWager(player));
        }
    }
}
