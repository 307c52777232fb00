/** A quiz with wagers; ../shared/DOC.md says what each method promises. */
public final class WagerQuiz {
    public static final int UNKNOWN = -10000001;
    public static final int BAD_VALUE = -10000002;
    public static final int REFUSED = -10000003;
    public static final int FULL = -10000004;
    public static final int NONE = -10000005;

    private static final int PLAYER_ROOM = 6;
    private static final int CLUES = 25;
    private static final int TICKS = 100;
    private static final int LOG_ROOM = 60;
    private static final int TEXT_ROOM = 70;
    private static final int HISTORY_ROOM = 5;
    private static final int SLOTS = 2;
    private static final int WAGER_TOP = 100000;
    private static final int CORRECTION_TOP = 10000;
    private static final int WAGER_FLOOR = 500;

    private static final int READING = 0;
    private static final int LOCK = 1;
    private static final int STEAL_SHARE = 2;
    private static final int[] SETTING_TOPS = {30, 30, 100};

    private static final int PICKING = 0;
    private static final int OPEN = 1;
    private static final int WAGER_WANTED = 2;
    private static final int WAGER_TOLD = 3;
    private static final int FINAL_WAGERS = 4;
    private static final int FINAL_ANSWERS = 5;
    private static final int OVER = 6;

    private static final int FIRST_ANSWER = 0;
    private static final int STEAL = 1;
    private static final int WAGER_ANSWER = 2;
    private static final int FINAL_ANSWER = 3;
    private static final int CORRECTION = 4;

    private static final int WRONG_PHASE = 1;
    private static final int NOT_IN_CONTROL = 2;
    private static final int CLUE_GONE = 3;
    private static final int EMPTY_QUEUE = 4;
    private static final int BEYOND_LIMIT = 5;
    private static final int NO_FINAL_WAGER = 6;
    private static final int LOG_FULL = 7;
    private static final int NO_PLAYERS = 8;

    private static final int NO_FAULT = -1;
    // The phase, and for each of six players a score of at most eight signs, take 90 signs at most.
    private static final int MESSAGE_ROOM = 128;

    private final State now;
    private final Replay replay;
    private final History history;
    private final State[] slots;
    private final boolean[] slotTaken;
    private final Script script;
    private final Message message;
    private int reason;

    public WagerQuiz() {
        now = new State();
        replay = new Replay();
        history = new History();
        slots = new State[SLOTS];
        for (int i = 0; i < SLOTS; i++) {
            slots[i] = new State();
        }
        slotTaken = new boolean[SLOTS];
        script = new Script();
        message = new Message();
        reason = 0;
    }

    // ---- players, board, settings

    public int addPlayer() {
        history.prepare(now);
        return recorded(doAddPlayer());
    }

    public int setWagerClue(int clue, boolean is) {
        history.prepare(now);
        return recorded(doSetWagerClue(clue, is));
    }

    public int set(int what, int value) {
        history.prepare(now);
        return recorded(doSet(what, value));
    }

    // ---- the board

    public int pick(int player, int clue) {
        history.prepare(now);
        return recorded(doPick(player, clue));
    }

    public int buzz(int player, int tick) {
        history.prepare(now);
        return recorded(doBuzz(player, tick));
    }

    public int answer(boolean right) {
        history.prepare(now);
        return recorded(doAnswer(right));
    }

    public int close() {
        history.prepare(now);
        return recorded(doClose());
    }

    public int wager(int amount) {
        history.prepare(now);
        return recorded(doWager(amount));
    }

    // ---- the final round

    public int beginFinal() {
        history.prepare(now);
        return recorded(doBeginFinal());
    }

    public int wagerFinal(int player, int amount) {
        history.prepare(now);
        return recorded(doWagerFinal(player, amount));
    }

    public int safeWager(int player) {
        if (!isPlayer(player)) {
            return UNKNOWN;
        }
        int score = replay.scores[player];
        if (score <= 0) {
            return NONE;
        }
        int least = 0;
        for (int other = 0; other < now.players; other++) {
            if (other != player) {
                least = Math.max(least, doubled(replay.scores[other]) + 1 - score);
            }
        }
        return least <= score ? least : NONE;
    }

    // ---- the log

    public int correct(int player, int amount) {
        history.prepare(now);
        return recorded(doCorrect(player, amount));
    }

    public int rejudge(int entry) {
        history.prepare(now);
        return recorded(doRejudge(entry));
    }

    // ---- scripts

    public int type(char character) {
        return script.append(character) ? script.length : FULL;
    }

    public int clearText() {
        int length = script.length;
        script.length = 0;
        return length;
    }

    public int runScript() {
        int fault = script.fault();
        if (fault != NO_FAULT) {
            return -100 - fault;
        }
        history.prepare(now);
        int moves = 0;
        int at = 0;
        while (moves < TEXT_ROOM && at < script.length && !isError(doMove(at))) {
            at += script.moveLength(at);
            moves++;
        }
        history.commit();
        return moves;
    }

    // ---- history

    public int undo() {
        if (history.size == 0) {
            return NONE;
        }
        load(history.takeLatest());
        return history.size;
    }

    public int keep(int slot) {
        if (!isSlot(slot)) {
            return UNKNOWN;
        }
        slots[slot].copyFrom(now);
        slotTaken[slot] = true;
        return now.log.size;
    }

    public int restore(int slot) {
        if (!isSlot(slot)) {
            return UNKNOWN;
        }
        if (!slotTaken[slot]) {
            return NONE;
        }
        history.prepare(now);
        load(slots[slot]);
        history.commit();
        return now.log.size;
    }

    // ---- what there is

    public int player(int player, int what) {
        if (!isPlayer(player)) {
            return UNKNOWN;
        }
        switch (what) {
            case 0:
                return replay.scores[player];
            case 1:
                return replay.rights[player];
            case 2:
                return replay.wrongs[player];
            case 3:
                return 1 + playersAbove(replay.scores[player]);
            case 4:
                return placeOf(player);
            case 5:
                return now.phase == OPEN ? now.open.countingTicks[player] : NONE;
            case 6:
                return now.finale.wagers[player];
            case 7:
                return replay.corrections[player];
            default:
                return BAD_VALUE;
        }
    }

    public int ordered(int place) {
        return place < 0 ? BAD_VALUE : playerAtPlace(place);
    }

    public int queued(int place) {
        return place < 0 ? BAD_VALUE : playerInQueue(place);
    }

    public int clue(int clue, int what) {
        if (!isClue(clue)) {
            return UNKNOWN;
        }
        switch (what) {
            case 0:
                return valueOf(clue);
            case 1:
                return bitOf(now.wagerClues, clue);
            case 2:
                return bitOf(now.goneClues, clue);
            case 3:
                return now.log.answersTo(clue);
            case 4:
                return replay.solvers[clue];
            default:
                return BAD_VALUE;
        }
    }

    public int entry(int entry, int what) {
        if (!isEntry(entry)) {
            return UNKNOWN;
        }
        switch (what) {
            case 0:
                return now.log.players[entry];
            case 1:
                return now.log.sorts[entry];
            case 2:
                return now.log.clues[entry];
            case 3:
                return now.log.amounts[entry];
            case 4:
                return replay.amounts[entry];
            case 5:
                return now.log.judgements[entry];
            case 6:
                return replay.scoresBehind[entry];
            case 7:
                return replay.voids[entry] ? 1 : 0;
            default:
                return BAD_VALUE;
        }
    }

    public int count(int what) {
        switch (what) {
            case 0:
                return now.phase;
            case 1:
                return now.players;
            case 2:
                return CLUES - Integer.bitCount(now.goneClues);
            case 3:
                return isClueUnderWay() ? now.open.clue : NONE;
            case 4:
                return controller();
            case 5:
                return now.log.size;
            case 6:
                return leaders();
            case 7:
                return sumOfScores();
            case 8:
            case 9:
            case 10:
                return now.settings[what - 8];
            case 11:
                return reason;
            case 12:
                return history.size;
            case 13:
                return script.length;
            case 14:
                return now.phase == FINAL_ANSWERS ? now.finale.nextToAnswer() : NONE;
            default:
                return BAD_VALUE;
        }
    }

    public int messageAt(int index) {
        if (index < 0) {
            return BAD_VALUE;
        }
        writeMessage();
        return index < message.length ? message.signs[index] : NONE;
    }

    // ---- the acts, without their record in the history

    private int doAddPlayer() {
        if (!isBeforeFirstPick()) {
            return refused(WRONG_PHASE);
        }
        if (now.players >= PLAYER_ROOM) {
            return FULL;
        }
        now.players++;
        return now.players - 1;
    }

    private int doSetWagerClue(int clue, boolean is) {
        if (!isClue(clue)) {
            return UNKNOWN;
        }
        if (!isBeforeFirstPick()) {
            return refused(WRONG_PHASE);
        }
        if ((bitOf(now.wagerClues, clue) == 1) == is) {
            return NONE;
        }
        now.wagerClues ^= 1 << clue;
        return Integer.bitCount(now.wagerClues);
    }

    private int doSet(int what, int value) {
        if (what < 0 || what >= SETTING_TOPS.length) {
            return UNKNOWN;
        }
        if (value < 0 || value > SETTING_TOPS[what]) {
            return BAD_VALUE;
        }
        int previous = now.settings[what];
        now.settings[what] = value;
        return previous;
    }

    private int doPick(int player, int clue) {
        if (!isPlayer(player) || !isClue(clue)) {
            return UNKNOWN;
        }
        if (now.phase != PICKING) {
            return refused(WRONG_PHASE);
        }
        if (player != controller()) {
            return refused(NOT_IN_CONTROL);
        }
        if (bitOf(now.goneClues, clue) == 1) {
            return refused(CLUE_GONE);
        }
        now.goneClues |= 1 << clue;
        now.open.begin(clue, now.settings[READING], now.settings[LOCK]);
        now.phase = bitOf(now.wagerClues, clue) == 1 ? WAGER_WANTED : OPEN;
        return valueOf(clue);
    }

    private int doBuzz(int player, int tick) {
        if (!isPlayer(player)) {
            return UNKNOWN;
        }
        if (tick < 0 || tick >= TICKS) {
            return BAD_VALUE;
        }
        if (now.phase != OPEN) {
            return refused(WRONG_PHASE);
        }
        if (now.open.isTold(player, tick)) {
            return NONE;
        }
        now.open.tell(player, tick);
        return queueLength();
    }

    private int doAnswer(boolean right) {
        if (now.phase != OPEN && now.phase != WAGER_TOLD && now.phase != FINAL_ANSWERS) {
            return refused(WRONG_PHASE);
        }
        int player = playerToAnswer();
        if (!isPlayer(player)) {
            return refused(EMPTY_QUEUE);
        }
        if (now.log.isFull()) {
            return refused(LOG_FULL);
        }
        if (now.phase == OPEN) {
            answerOpenClue(player, right);
        } else if (now.phase == WAGER_TOLD) {
            now.log.append(player, WAGER_ANSWER, now.open.clue, now.open.wager, right ? 1 : 0);
            now.phase = PICKING;
        } else {
            answerFinal(player, right);
        }
        return replayedScore(player);
    }

    private int playerToAnswer() {
        switch (now.phase) {
            case OPEN:
                return playerInQueue(0);
            case WAGER_TOLD:
                return controller();
            default:
                return now.finale.nextToAnswer();
        }
    }

    private void answerOpenClue(int player, boolean right) {
        int value = valueOf(now.open.clue);
        if (now.open.answered == 0) {
            now.log.append(player, FIRST_ANSWER, now.open.clue, value, right ? 1 : 0);
        } else {
            int share = value * now.settings[STEAL_SHARE] / 100;
            now.log.append(player, STEAL, now.open.clue, share, right ? 1 : 0);
        }
        now.open.answered |= 1 << player;
        if (right) {
            now.phase = PICKING;
        }
    }

    private void answerFinal(int player, boolean right) {
        now.log.append(player, FINAL_ANSWER, NONE, now.finale.wagers[player], right ? 1 : 0);
        now.finale.answers++;
        if (now.finale.answers >= now.finale.members()) {
            now.phase = OVER;
        }
    }

    private int doClose() {
        if (now.phase != OPEN) {
            return refused(WRONG_PHASE);
        }
        now.phase = PICKING;
        return Integer.bitCount(now.open.answered);
    }

    private int doWager(int amount) {
        if (amount < 0 || amount > WAGER_TOP) {
            return BAD_VALUE;
        }
        if (now.phase != WAGER_WANTED) {
            return refused(WRONG_PHASE);
        }
        int limit = Math.max(replay.scoreOf(replay.control), WAGER_FLOOR);
        if (amount > limit) {
            return refused(BEYOND_LIMIT);
        }
        now.open.wager = amount;
        now.phase = WAGER_TOLD;
        return limit;
    }

    private int doBeginFinal() {
        if (now.players == 0) {
            return refused(NO_PLAYERS);
        }
        if (now.phase != PICKING) {
            return refused(WRONG_PHASE);
        }
        now.finale.begin(replay.scores);
        int members = now.finale.members();
        now.phase = members == 0 ? OVER : FINAL_WAGERS;
        return members;
    }

    private int doWagerFinal(int player, int amount) {
        if (!isPlayer(player)) {
            return UNKNOWN;
        }
        if (amount < 0 || amount > WAGER_TOP) {
            return BAD_VALUE;
        }
        if (now.phase != FINAL_WAGERS) {
            return refused(WRONG_PHASE);
        }
        if (!now.finale.isWagerWanting(player)) {
            return refused(NO_FINAL_WAGER);
        }
        if (amount > now.finale.startScores[player]) {
            return refused(BEYOND_LIMIT);
        }
        now.finale.wagers[player] = amount;
        int wanting = now.finale.wagersWanting();
        if (wanting == 0) {
            now.phase = FINAL_ANSWERS;
        }
        return wanting;
    }

    private int doCorrect(int player, int amount) {
        if (!isPlayer(player)) {
            return UNKNOWN;
        }
        if (amount < -CORRECTION_TOP || amount > CORRECTION_TOP) {
            return BAD_VALUE;
        }
        if (now.log.isFull()) {
            return refused(LOG_FULL);
        }
        now.log.append(player, CORRECTION, NONE, amount, NONE);
        return replayedScore(player);
    }

    private int doRejudge(int entry) {
        if (!isEntry(entry)) {
            return UNKNOWN;
        }
        if (now.log.sorts[entry] == CORRECTION) {
            return BAD_VALUE;
        }
        replay.rememberScores();
        now.log.judgements[entry] = 1 - now.log.judgements[entry];
        replay.run(now.log);
        return replay.changedScores();
    }

    private int doMove(int at) {
        switch (script.signAt(at)) {
            case 'p':
                return doPick(controller(), script.number(at + 1, 2));
            case 'b':
                return doBuzz(script.number(at + 1, 1), script.number(at + 2, 2));
            case 'w':
                return doWager(script.number(at + 1, 4));
            case '+':
                return doAnswer(true);
            case '-':
                return doAnswer(false);
            default:
                return doClose();
        }
    }

    // ---- results and their record

    // Scores stay above -10000000, so no answer of an act looks like a constant.
    private int recorded(int result) {
        if (!isError(result) && result != NONE) {
            history.commit();
        }
        return result;
    }

    private static boolean isError(int result) {
        return result == UNKNOWN || result == BAD_VALUE || result == REFUSED || result == FULL;
    }

    private int refused(int why) {
        reason = why;
        return REFUSED;
    }

    private int replayedScore(int player) {
        replay.run(now.log);
        return replay.scoreOf(player);
    }

    private void load(State state) {
        now.copyFrom(state);
        replay.run(now.log);
    }

    // ---- what an argument names

    private boolean isPlayer(int player) {
        return player >= 0 && player < now.players;
    }

    private static boolean isClue(int clue) {
        return clue >= 0 && clue < CLUES;
    }

    private boolean isEntry(int entry) {
        return entry >= 0 && entry < now.log.size;
    }

    private static boolean isSlot(int slot) {
        return slot >= 0 && slot < SLOTS;
    }

    // ---- the board and the control

    private static int valueOf(int clue) {
        return 100 * (clue / 5 + 1);
    }

    private static int bitOf(int bits, int place) {
        return (bits >> place) & 1;
    }

    private boolean isBeforeFirstPick() {
        return now.phase == PICKING && now.goneClues == 0;
    }

    private boolean isClueUnderWay() {
        return now.phase == OPEN || now.phase == WAGER_WANTED || now.phase == WAGER_TOLD;
    }

    private int controller() {
        return now.players == 0 ? NONE : replay.control;
    }

    // ---- scores and ranks

    private static int doubled(int score) {
        return score > 0 ? 2 * score : score;
    }

    private int playersAbove(int score) {
        int above = 0;
        for (int player = 0; player < now.players; player++) {
            if (replay.scores[player] > score) {
                above++;
            }
        }
        return above;
    }

    private int leaders() {
        int bits = 0;
        for (int player = 0; player < now.players; player++) {
            if (playersAbove(replay.scores[player]) == 0) {
                bits |= 1 << player;
            }
        }
        return bits;
    }

    private int sumOfScores() {
        int sum = 0;
        for (int player = 0; player < now.players; player++) {
            sum += replay.scores[player];
        }
        return sum;
    }

    private int placeOf(int player) {
        int place = 0;
        for (int other = 0; other < now.players; other++) {
            if (replay.isAhead(other, player)) {
                place++;
            }
        }
        return place;
    }

    private int playerAtPlace(int place) {
        for (int player = 0; player < now.players; player++) {
            if (placeOf(player) == place) {
                return player;
            }
        }
        return NONE;
    }

    private void writeMessage() {
        message.length = 0;
        message.writeWords("phase ");
        message.writeNumber(now.phase);
        for (int place = 0; place < now.players; place++) {
            int player = playerAtPlace(place);
            message.writeWords("; p");
            message.writeNumber(player);
            message.writeWords(" ");
            message.writeNumber(replay.scoreOf(player));
        }
    }

    // ---- the queue

    private boolean isQueued(int player) {
        return now.phase == OPEN
                && now.open.countingTicks[player] != NONE
                && bitOf(now.open.answered, player) == 0;
    }

    private int queueLength() {
        int length = 0;
        for (int player = 0; player < now.players; player++) {
            if (isQueued(player)) {
                length++;
            }
        }
        return length;
    }

    private boolean isQueuedAhead(int player, int other) {
        int tick = now.open.countingTicks[player];
        int otherTick = now.open.countingTicks[other];
        if (tick != otherTick) {
            return tick < otherTick;
        }
        if (replay.scores[player] != replay.scores[other]) {
            return replay.scores[player] < replay.scores[other];
        }
        return player < other;
    }

    private int queuePlaceOf(int player) {
        int place = 0;
        for (int other = 0; other < now.players; other++) {
            if (isQueued(other) && isQueuedAhead(other, player)) {
                place++;
            }
        }
        return place;
    }

    private int playerInQueue(int place) {
        for (int player = 0; player < now.players; player++) {
            if (isQueued(player) && queuePlaceOf(player) == place) {
                return player;
            }
        }
        return NONE;
    }

    /** Everything that the history and the slots hold. */
    private static final class State {
        int phase;
        int players;
        int wagerClues;
        int goneClues;
        final int[] settings = {10, 5, 50};
        final PickedClue open = new PickedClue();
        final FinalRound finale = new FinalRound();
        final Log log = new Log();

        void copyFrom(State other) {
            phase = other.phase;
            players = other.players;
            wagerClues = other.wagerClues;
            goneClues = other.goneClues;
            System.arraycopy(other.settings, 0, settings, 0, SETTING_TOPS.length);
            open.copyFrom(other.open);
            finale.copyFrom(other.finale);
            log.copyFrom(other.log);
        }
    }

    /** The clue that was picked last, with what was told about it. */
    private static final class PickedClue {
        int clue;
        int reading;
        int lock;
        int wager;
        int answered;
        final int[] countingTicks = new int[PLAYER_ROOM];
        final long[] ticksBelow64 = new long[PLAYER_ROOM];
        final long[] ticksFrom64 = new long[PLAYER_ROOM];

        void begin(int picked, int readingThen, int lockThen) {
            clue = picked;
            reading = readingThen;
            lock = lockThen;
            wager = 0;
            answered = 0;
            for (int player = 0; player < PLAYER_ROOM; player++) {
                countingTicks[player] = NONE;
                ticksBelow64[player] = 0L;
                ticksFrom64[player] = 0L;
            }
        }

        boolean isTold(int player, int tick) {
            long ticks = tick < 64 ? ticksBelow64[player] : ticksFrom64[player];
            return ((ticks >> (tick % 64)) & 1L) == 1L;
        }

        void tell(int player, int tick) {
            if (tick < 64) {
                ticksBelow64[player] |= 1L << tick;
            } else {
                ticksFrom64[player] |= 1L << (tick - 64);
            }
            countingTicks[player] = leastCountingTick(player);
        }

        private int leastCountingTick(int player) {
            for (int tick = endOfLock(player); tick < TICKS; tick++) {
                if (isTold(player, tick)) {
                    return tick;
                }
            }
            return NONE;
        }

        private int endOfLock(int player) {
            int end = reading;
            for (int tick = 0; tick < reading; tick++) {
                if (isTold(player, tick)) {
                    end = Math.max(end, tick + lock);
                }
            }
            return end;
        }

        void copyFrom(PickedClue other) {
            clue = other.clue;
            reading = other.reading;
            lock = other.lock;
            wager = other.wager;
            answered = other.answered;
            System.arraycopy(other.countingTicks, 0, countingTicks, 0, PLAYER_ROOM);
            System.arraycopy(other.ticksBelow64, 0, ticksBelow64, 0, PLAYER_ROOM);
            System.arraycopy(other.ticksFrom64, 0, ticksFrom64, 0, PLAYER_ROOM);
        }
    }

    /** The final round; those who take part have a start score above 0. */
    private static final class FinalRound {
        int answers;
        final int[] startScores = new int[PLAYER_ROOM];
        final int[] wagers = new int[PLAYER_ROOM];

        FinalRound() {
            for (int player = 0; player < PLAYER_ROOM; player++) {
                wagers[player] = NONE;
            }
        }

        void begin(int[] scores) {
            for (int player = 0; player < PLAYER_ROOM; player++) {
                startScores[player] = Math.max(scores[player], 0);
            }
        }

        int members() {
            int members = 0;
            for (int score : startScores) {
                if (score > 0) {
                    members++;
                }
            }
            return members;
        }

        boolean isWagerWanting(int player) {
            return startScores[player] > 0 && wagers[player] == NONE;
        }

        int wagersWanting() {
            int wanting = 0;
            for (int player = 0; player < PLAYER_ROOM; player++) {
                if (isWagerWanting(player)) {
                    wanting++;
                }
            }
            return wanting;
        }

        int nextToAnswer() {
            for (int player = 0; player < PLAYER_ROOM; player++) {
                if (startScores[player] > 0 && turnOf(player) == answers) {
                    return player;
                }
            }
            return NONE;
        }

        private int turnOf(int player) {
            int turn = 0;
            for (int other = 0; other < PLAYER_ROOM; other++) {
                if (startScores[other] > 0 && isEarlier(other, player)) {
                    turn++;
                }
            }
            return turn;
        }

        private boolean isEarlier(int player, int other) {
            if (startScores[player] != startScores[other]) {
                return startScores[player] < startScores[other];
            }
            return player < other;
        }

        void copyFrom(FinalRound other) {
            answers = other.answers;
            System.arraycopy(other.startScores, 0, startScores, 0, PLAYER_ROOM);
            System.arraycopy(other.wagers, 0, wagers, 0, PLAYER_ROOM);
        }
    }

    /** The answers and corrections, as they were told. */
    private static final class Log {
        int size;
        final int[] players = new int[LOG_ROOM];
        final int[] sorts = new int[LOG_ROOM];
        final int[] clues = new int[LOG_ROOM];
        final int[] amounts = new int[LOG_ROOM];
        final int[] judgements = new int[LOG_ROOM];

        boolean isFull() {
            return size >= LOG_ROOM;
        }

        void append(int player, int sort, int clue, int amount, int judgement) {
            if (isFull()) {
                return;
            }
            players[size] = player;
            sorts[size] = sort;
            clues[size] = clue;
            amounts[size] = amount;
            judgements[size] = judgement;
            size++;
        }

        int answersTo(int clue) {
            int answers = 0;
            for (int i = 0; i < size; i++) {
                if (clues[i] == clue) {
                    answers++;
                }
            }
            return answers;
        }

        void copyFrom(Log other) {
            size = other.size;
            System.arraycopy(other.players, 0, players, 0, LOG_ROOM);
            System.arraycopy(other.sorts, 0, sorts, 0, LOG_ROOM);
            System.arraycopy(other.clues, 0, clues, 0, LOG_ROOM);
            System.arraycopy(other.amounts, 0, amounts, 0, LOG_ROOM);
            System.arraycopy(other.judgements, 0, judgements, 0, LOG_ROOM);
        }
    }

    /** What comes of the log when it is gone through from its first entry. */
    private static final class Replay {
        int control;
        final int[] scores = new int[PLAYER_ROOM];
        final int[] rights = new int[PLAYER_ROOM];
        final int[] wrongs = new int[PLAYER_ROOM];
        final int[] corrections = new int[PLAYER_ROOM];
        final int[] solvers = new int[CLUES];
        final int[] amounts = new int[LOG_ROOM];
        final int[] scoresBehind = new int[LOG_ROOM];
        final boolean[] voids = new boolean[LOG_ROOM];
        private final int[] formerScores = new int[PLAYER_ROOM];

        Replay() {
            for (int clue = 0; clue < CLUES; clue++) {
                solvers[clue] = NONE;
            }
        }

        void run(Log log) {
            control = 0;
            for (int player = 0; player < PLAYER_ROOM; player++) {
                scores[player] = 0;
                rights[player] = 0;
                wrongs[player] = 0;
                corrections[player] = 0;
            }
            for (int clue = 0; clue < CLUES; clue++) {
                solvers[clue] = NONE;
            }
            for (int i = 0; i < log.size; i++) {
                replayEntry(log, i);
            }
        }

        int scoreOf(int player) {
            return isSeat(player) ? scores[player] : 0;
        }

        private static boolean isSeat(int player) {
            return player >= 0 && player < PLAYER_ROOM;
        }

        private void replayEntry(Log log, int i) {
            int player = log.players[i];
            if (!isSeat(player)) {
                return;
            }
            int told = log.amounts[i];
            voids[i] = log.sorts[i] == STEAL && solverOf(log.clues[i]) != NONE;
            amounts[i] = voids[i] ? 0 : limited(told, log.sorts[i], scores[player]);
            if (log.sorts[i] == CORRECTION) {
                scores[player] += told;
                corrections[player] += told;
            } else if (log.judgements[i] == 1) {
                scores[player] += amounts[i];
                if (!voids[i]) {
                    noteRight(player, log.clues[i]);
                }
            } else {
                scores[player] -= amounts[i];
                if (!voids[i]) {
                    wrongs[player]++;
                }
            }
            scoresBehind[i] = scores[player];
        }

        // An answer of the final round has no clue and leaves the control where it is.
        private void noteRight(int player, int clue) {
            rights[player]++;
            if (isClue(clue)) {
                solvers[clue] = player;
                control = player;
            }
        }

        private int solverOf(int clue) {
            return isClue(clue) ? solvers[clue] : NONE;
        }

        private static int limited(int told, int sort, int score) {
            if (sort == WAGER_ANSWER) {
                return Math.min(told, Math.max(score, WAGER_FLOOR));
            }
            if (sort == FINAL_ANSWER) {
                return Math.min(told, Math.max(score, 0));
            }
            return told;
        }

        boolean isAhead(int player, int other) {
            if (scores[player] != scores[other]) {
                return scores[player] > scores[other];
            }
            if (rights[player] != rights[other]) {
                return rights[player] > rights[other];
            }
            if (wrongs[player] != wrongs[other]) {
                return wrongs[player] < wrongs[other];
            }
            return player < other;
        }

        void rememberScores() {
            System.arraycopy(scores, 0, formerScores, 0, PLAYER_ROOM);
        }

        int changedScores() {
            int changed = 0;
            for (int player = 0; player < PLAYER_ROOM; player++) {
                if (scores[player] != formerScores[player]) {
                    changed++;
                }
            }
            return changed;
        }
    }

    /** A ring with one place more than the history has, where the state ahead of an act is put on trial. */
    private static final class History {
        private static final int RING = HISTORY_ROOM + 1;

        int size;
        private int trial;
        private final State[] ring = new State[RING];

        History() {
            for (int i = 0; i < RING; i++) {
                ring[i] = new State();
            }
        }

        void prepare(State state) {
            ring[trial].copyFrom(state);
        }

        void commit() {
            trial = trial == RING - 1 ? 0 : trial + 1;
            if (size < HISTORY_ROOM) {
                size++;
            }
        }

        State takeLatest() {
            if (size > 0) {
                trial = trial == 0 ? RING - 1 : trial - 1;
                size--;
            }
            return ring[trial];
        }
    }

    /** The text, and how it reads as a sequence of moves. */
    private static final class Script {
        int length;
        private final char[] signs = new char[TEXT_ROOM];

        boolean append(char sign) {
            if (length >= TEXT_ROOM) {
                return false;
            }
            signs[length] = sign;
            length++;
            return true;
        }

        char signAt(int at) {
            return at >= 0 && at < length ? signs[at] : ' ';
        }

        int moveLength(int at) {
            switch (signAt(at)) {
                case 'p':
                    return 3;
                case 'b':
                    return 4;
                case 'w':
                    return 5;
                case '+':
                case '-':
                case 'n':
                    return 1;
                default:
                    return 0;
            }
        }

        int fault() {
            int start = 0;
            for (int at = 0; at < length; at++) {
                if (!isAllowed(start, at)) {
                    return at;
                }
                if (at + 1 - start == moveLength(start)) {
                    start = at + 1;
                }
            }
            return length > 0 && start == length ? NO_FAULT : length;
        }

        private boolean isAllowed(int start, int at) {
            if (at == start) {
                return moveLength(start) > 0;
            }
            char sign = signAt(at);
            return sign >= '0' && sign <= greatestDigit(start, at);
        }

        private char greatestDigit(int start, int at) {
            char move = signAt(start);
            if (move == 'p' && at == start + 1) {
                return '2';
            }
            if (move == 'p' && signAt(start + 1) == '2') {
                return '4';
            }
            if (move == 'b' && at == start + 1) {
                return '5';
            }
            return '9';
        }

        int number(int from, int digits) {
            int number = 0;
            for (int at = from; at < from + digits; at++) {
                number = 10 * number + signAt(at) - '0';
            }
            return number;
        }
    }

    /** The message about the quiz, in a row that each call uses again. */
    private static final class Message {
        // No number of the message is as great as ten times this.
        private static final int GREATEST_UNIT = 10000000;

        int length;
        final char[] signs = new char[MESSAGE_ROOM];

        void writeWords(String words) {
            for (int i = 0; i < words.length(); i++) {
                write(words.charAt(i));
            }
        }

        void writeNumber(int number) {
            if (number < 0) {
                write('-');
            }
            int rest = Math.abs(number);
            for (int unit = GREATEST_UNIT; unit > 0; unit /= 10) {
                if (rest >= unit || unit == 1) {
                    write((char) ('0' + rest / unit % 10));
                }
            }
        }

        private void write(char sign) {
            if (length < MESSAGE_ROOM) {
                signs[length] = sign;
                length++;
            }
        }
    }
}
