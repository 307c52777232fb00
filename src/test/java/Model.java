import java.util.ArrayList;
import java.util.Collections;
import java.util.Comparator;
import java.util.HashMap;
import java.util.List;
import java.util.Map;
import java.util.TreeMap;
import java.util.TreeSet;
import java.util.regex.Matcher;
import java.util.regex.Pattern;

/** A slow second reading of the document, with the Java library: each question is answered from the log anew. */
final class Model {
    private static final int UNKNOWN = -10000001;
    private static final int BAD_VALUE = -10000002;
    private static final int REFUSED = -10000003;
    private static final int FULL = -10000004;
    private static final int NONE = -10000005;

    private record Entry(int player, String sort, int clue, int told, boolean right) {
    }

    private record Outcome(int amount, boolean isVoid, int scoreBehind) {
    }

    private static final class State {
        int phase = 0;
        int players = 0;
        TreeSet<Integer> wagerClues = new TreeSet<>();
        TreeSet<Integer> gone = new TreeSet<>();
        List<Integer> settings = List.of(10, 5, 50);
        int clue = NONE;
        int reading = 0;
        int lock = 0;
        Map<Integer, TreeSet<Integer>> buzzes = new HashMap<>();
        int wager = NONE;
        List<Entry> log = new ArrayList<>();
        Map<Integer, Integer> finalScores = new TreeMap<>();
        Map<Integer, Integer> finalWagers = new TreeMap<>();
        List<Integer> finalDone = new ArrayList<>();

        State copy() {
            State copy = new State();
            copy.phase = phase;
            copy.players = players;
            copy.wagerClues = new TreeSet<>(wagerClues);
            copy.gone = new TreeSet<>(gone);
            copy.settings = settings;
            copy.clue = clue;
            copy.reading = reading;
            copy.lock = lock;
            buzzes.forEach((player, ticks) -> copy.buzzes.put(player, new TreeSet<>(ticks)));
            copy.wager = wager;
            copy.log = new ArrayList<>(log);
            copy.finalScores = new TreeMap<>(finalScores);
            copy.finalWagers = new TreeMap<>(finalWagers);
            copy.finalDone = new ArrayList<>(finalDone);
            return copy;
        }
    }

    private State s = new State();
    private final List<State> history = new ArrayList<>();
    private final State[] slots = new State[2];
    private String text = "";
    private int reason = 0;

    // ---- the replay

    private List<Outcome> replay() {
        List<Outcome> outcomes = new ArrayList<>();
        int[] scores = new int[6];
        for (int i = 0; i < s.log.size(); i++) {
            Entry entry = s.log.get(i);
            boolean isVoid = false;
            for (int j = 0; j < i; j++) {
                Entry earlier = s.log.get(j);
                if (entry.sort.equals("steal") && earlier.clue == entry.clue && earlier.right) {
                    isVoid = true;
                }
            }
            int score = scores[entry.player];
            int amount = switch (entry.sort) {
                case "wager" -> Math.min(entry.told, Math.max(score, 500));
                case "final" -> score < 0 ? 0 : Math.min(entry.told, score);
                default -> entry.told;
            };
            if (isVoid) {
                amount = 0;
            }
            boolean adds = entry.sort.equals("correction") || entry.right;
            scores[entry.player] = adds ? score + amount : score - amount;
            outcomes.add(new Outcome(amount, isVoid, scores[entry.player]));
        }
        return outcomes;
    }

    private int score(int player) {
        List<Outcome> outcomes = replay();
        for (int i = s.log.size() - 1; i >= 0; i--) {
            if (s.log.get(i).player == player) {
                return outcomes.get(i).scoreBehind;
            }
        }
        return 0;
    }

    private int answers(int player, boolean right) {
        List<Outcome> outcomes = replay();
        int count = 0;
        for (int i = 0; i < s.log.size(); i++) {
            Entry entry = s.log.get(i);
            if (entry.player == player && !entry.sort.equals("correction") && entry.right == right
                    && !outcomes.get(i).isVoid) {
                count++;
            }
        }
        return count;
    }

    private int control() {
        if (s.players == 0) {
            return NONE;
        }
        List<Outcome> outcomes = replay();
        int control = 0;
        for (int i = 0; i < s.log.size(); i++) {
            if (s.log.get(i).clue != NONE && s.log.get(i).right && !outcomes.get(i).isVoid) {
                control = s.log.get(i).player;
            }
        }
        return control;
    }

    // ---- orders

    private List<Integer> allPlayers() {
        List<Integer> all = new ArrayList<>();
        for (int player = 0; player < s.players; player++) {
            all.add(player);
        }
        return all;
    }

    private List<Integer> inOrder() {
        List<Integer> order = allPlayers();
        order.sort(Comparator.<Integer>comparingInt(p -> -score(p))
                .thenComparingInt(p -> -answers(p, true))
                .thenComparingInt(p -> answers(p, false))
                .thenComparingInt(p -> p));
        return order;
    }

    private int tickOf(int player) {
        TreeSet<Integer> ticks = s.buzzes.getOrDefault(player, new TreeSet<>());
        for (int tick : ticks) {
            boolean counts = tick >= s.reading;
            for (int early : ticks.headSet(s.reading)) {
                if (early + s.lock > tick) {
                    counts = false;
                }
            }
            if (counts) {
                return tick;
            }
        }
        return NONE;
    }

    private List<Integer> queue() {
        List<Integer> queue = new ArrayList<>();
        if (s.phase != 1) {
            return queue;
        }
        for (int player : allPlayers()) {
            boolean answered = s.log.stream().anyMatch(e -> e.clue == s.clue && e.player == player);
            if (!answered && tickOf(player) != NONE) {
                queue.add(player);
            }
        }
        queue.sort(Comparator.<Integer>comparingInt(this::tickOf)
                .thenComparingInt(this::score).thenComparingInt(p -> p));
        return queue;
    }

    private int nextInFinal() {
        List<Integer> turns = new ArrayList<>(s.finalScores.keySet());
        turns.sort(Comparator.<Integer>comparingInt(s.finalScores::get).thenComparingInt(p -> p));
        turns.removeAll(s.finalDone);
        return s.phase != 5 || turns.isEmpty() ? NONE : turns.get(0);
    }

    private int answersTo(int clue) {
        return (int) s.log.stream().filter(e -> e.clue == clue).count();
    }

    // ---- acts

    private int refuse(int why) {
        reason = why;
        return REFUSED;
    }

    private static boolean isError(int answer) {
        return answer <= UNKNOWN && answer >= FULL;
    }

    private int act(State before, int answer) {
        if (!isError(answer) && answer != NONE) {
            history.add(before);
            if (history.size() > 5) {
                history.remove(0);
            }
        }
        return answer;
    }

    private static boolean within(int number, int least, int greatest) {
        return least <= number && number <= greatest;
    }

    int addPlayer() {
        State before = s.copy();
        if (!s.gone.isEmpty() || s.phase != 0) {
            return refuse(1);
        }
        if (s.players == 6) {
            return FULL;
        }
        return act(before, s.players++);
    }

    int setWagerClue(int clue, boolean is) {
        State before = s.copy();
        if (!within(clue, 0, 24)) {
            return UNKNOWN;
        }
        if (!s.gone.isEmpty() || s.phase != 0) {
            return refuse(1);
        }
        boolean changed = is ? s.wagerClues.add(clue) : s.wagerClues.remove(clue);
        return changed ? act(before, s.wagerClues.size()) : NONE;
    }

    int set(int what, int value) {
        State before = s.copy();
        if (!within(what, 0, 2)) {
            return UNKNOWN;
        }
        if (!within(value, 0, what == 2 ? 100 : 30)) {
            return BAD_VALUE;
        }
        List<Integer> settings = new ArrayList<>(s.settings);
        int previous = settings.set(what, value);
        s.settings = settings;
        return act(before, previous);
    }

    int pick(int player, int clue) {
        return act(s.copy(), movePick(player, clue));
    }

    private int movePick(int player, int clue) {
        if (!within(player, 0, s.players - 1) || !within(clue, 0, 24)) {
            return UNKNOWN;
        }
        if (s.phase != 0) {
            return refuse(1);
        }
        if (player != control()) {
            return refuse(2);
        }
        if (!s.gone.add(clue)) {
            return refuse(3);
        }
        s.clue = clue;
        s.reading = s.settings.get(0);
        s.lock = s.settings.get(1);
        s.buzzes.clear();
        s.phase = s.wagerClues.contains(clue) ? 2 : 1;
        return 100 * (clue / 5 + 1);
    }

    int buzz(int player, int tick) {
        return act(s.copy(), moveBuzz(player, tick));
    }

    private int moveBuzz(int player, int tick) {
        if (!within(player, 0, s.players - 1)) {
            return UNKNOWN;
        }
        if (!within(tick, 0, 99)) {
            return BAD_VALUE;
        }
        if (s.phase != 1) {
            return refuse(1);
        }
        boolean told = s.buzzes.computeIfAbsent(player, p -> new TreeSet<>()).add(tick);
        return told ? queue().size() : NONE;
    }

    int answer(boolean right) {
        return act(s.copy(), moveAnswer(right));
    }

    private int moveAnswer(boolean right) {
        if (s.phase != 1 && s.phase != 3 && s.phase != 5) {
            return refuse(1);
        }
        if (s.phase == 1 && queue().isEmpty()) {
            return refuse(4);
        }
        if (s.log.size() == 60) {
            return refuse(7);
        }
        int player;
        if (s.phase == 1) {
            player = queue().get(0);
            int value = 100 * (s.clue / 5 + 1);
            boolean first = answersTo(s.clue) == 0;
            int told = first ? value : Math.floorDiv(value * s.settings.get(2), 100);
            s.log.add(new Entry(player, first ? "first" : "steal", s.clue, told, right));
            s.phase = right ? 0 : 1;
        } else if (s.phase == 3) {
            player = control();
            s.log.add(new Entry(player, "wager", s.clue, s.wager, right));
            s.phase = 0;
        } else {
            player = nextInFinal();
            s.log.add(new Entry(player, "final", NONE, s.finalWagers.get(player), right));
            s.finalDone.add(player);
            s.phase = nextInFinal() == NONE ? 6 : 5;
        }
        return score(player);
    }

    int close() {
        return act(s.copy(), moveClose());
    }

    private int moveClose() {
        if (s.phase != 1) {
            return refuse(1);
        }
        s.phase = 0;
        return answersTo(s.clue);
    }

    int wager(int amount) {
        return act(s.copy(), moveWager(amount));
    }

    private int moveWager(int amount) {
        if (!within(amount, 0, 100000)) {
            return BAD_VALUE;
        }
        if (s.phase != 2) {
            return refuse(1);
        }
        int limit = Math.max(500, score(control()));
        if (amount > limit) {
            return refuse(5);
        }
        s.wager = amount;
        s.phase = 3;
        return limit;
    }

    int beginFinal() {
        State before = s.copy();
        if (s.players == 0) {
            return refuse(8);
        }
        if (s.phase != 0) {
            return refuse(1);
        }
        for (int player : allPlayers()) {
            if (score(player) > 0) {
                s.finalScores.put(player, score(player));
            }
        }
        s.phase = s.finalScores.isEmpty() ? 6 : 4;
        return act(before, s.finalScores.size());
    }

    int wagerFinal(int player, int amount) {
        State before = s.copy();
        if (!within(player, 0, s.players - 1)) {
            return UNKNOWN;
        }
        if (!within(amount, 0, 100000)) {
            return BAD_VALUE;
        }
        if (s.phase != 4) {
            return refuse(1);
        }
        if (!s.finalScores.containsKey(player) || s.finalWagers.containsKey(player)) {
            return refuse(6);
        }
        if (amount > s.finalScores.get(player)) {
            return refuse(5);
        }
        s.finalWagers.put(player, amount);
        int wanting = s.finalScores.size() - s.finalWagers.size();
        s.phase = wanting == 0 ? 5 : 4;
        return act(before, wanting);
    }

    int safeWager(int player) {
        if (!within(player, 0, s.players - 1)) {
            return UNKNOWN;
        }
        int own = score(player);
        List<Integer> others = new ArrayList<>(List.of(Integer.MIN_VALUE));
        for (int other : allPlayers()) {
            if (other != player) {
                others.add(score(other) > 0 ? 2 * score(other) : score(other));
            }
        }
        int greatest = Collections.max(others);
        if (own <= 0 || own + own <= greatest) {
            return NONE;
        }
        return own > greatest ? 0 : greatest - own + 1;
    }

    int correct(int player, int amount) {
        State before = s.copy();
        if (!within(player, 0, s.players - 1)) {
            return UNKNOWN;
        }
        if (!within(amount, -10000, 10000)) {
            return BAD_VALUE;
        }
        if (s.log.size() == 60) {
            return refuse(7);
        }
        s.log.add(new Entry(player, "correction", NONE, amount, false));
        return act(before, score(player));
    }

    int rejudge(int entry) {
        State before = s.copy();
        if (!within(entry, 0, s.log.size() - 1)) {
            return UNKNOWN;
        }
        Entry old = s.log.get(entry);
        if (old.sort.equals("correction")) {
            return BAD_VALUE;
        }
        Map<Integer, Integer> scores = new HashMap<>();
        allPlayers().forEach(p -> scores.put(p, score(p)));
        s.log.set(entry, new Entry(old.player, old.sort, old.clue, old.told, !old.right));
        return act(before, (int) allPlayers().stream().filter(p -> score(p) != scores.get(p)).count());
    }

    // ---- scripts

    private static final Pattern MOVE = Pattern.compile("p([01][0-9]|2[0-4])|b[0-5][0-9]{2}|w[0-9]{4}|[-+n]");

    int type(char character) {
        if (text.length() == 70) {
            return FULL;
        }
        text += character;
        return text.length();
    }

    int clearText() {
        int length = text.length();
        text = "";
        return length;
    }

    int runScript() {
        List<String> moves = new ArrayList<>();
        Matcher matcher = MOVE.matcher(text);
        int end = 0;
        while (end < text.length()) {
            matcher.region(end, text.length());
            if (!matcher.lookingAt()) {
                // The fault is where the last character is that no longer could begin a move.
                matcher.region(end, text.length());
                for (int to = end + 1; to <= text.length(); to++) {
                    if (!couldBegin(text.substring(end, to))) {
                        return -100 - (to - 1);
                    }
                }
                return -100 - text.length();
            }
            moves.add(matcher.group());
            end = matcher.end();
        }
        if (text.isEmpty()) {
            return -100;
        }
        State before = s.copy();
        int done = 0;
        while (done < moves.size() && !isError(move(moves.get(done)))) {
            done++;
        }
        return act(before, done);
    }

    private static boolean couldBegin(String start) {
        for (String rest : List.of("", "0", "00", "000", "0000")) {
            if (MOVE.matcher(start + rest).matches()) {
                return true;
            }
        }
        return false;
    }

    private int move(String move) {
        return switch (move.charAt(0)) {
            case 'p' -> movePick(control(), Integer.parseInt(move.substring(1)));
            case 'b' -> moveBuzz(move.charAt(1) - '0', Integer.parseInt(move.substring(2)));
            case 'w' -> moveWager(Integer.parseInt(move.substring(1)));
            case 'n' -> moveClose();
            default -> moveAnswer(move.equals("+"));
        };
    }

    // ---- history

    int undo() {
        if (history.isEmpty()) {
            return NONE;
        }
        s = history.remove(history.size() - 1);
        return history.size();
    }

    int keep(int slot) {
        if (!within(slot, 0, 1)) {
            return UNKNOWN;
        }
        slots[slot] = s.copy();
        return s.log.size();
    }

    int restore(int slot) {
        if (!within(slot, 0, 1)) {
            return UNKNOWN;
        }
        if (slots[slot] == null) {
            return NONE;
        }
        State before = s;
        s = slots[slot].copy();
        return act(before, s.log.size());
    }

    // ---- what there is

    int player(int player, int what) {
        if (!within(player, 0, s.players - 1)) {
            return UNKNOWN;
        }
        return switch (what) {
            case 0 -> score(player);
            case 1 -> answers(player, true);
            case 2 -> answers(player, false);
            case 3 -> 1 + (int) allPlayers().stream().filter(p -> score(p) > score(player)).count();
            case 4 -> inOrder().indexOf(player);
            case 5 -> s.phase == 1 ? tickOf(player) : NONE;
            case 6 -> s.finalWagers.getOrDefault(player, NONE);
            case 7 -> s.log.stream().filter(e -> e.player == player && e.sort.equals("correction"))
                    .mapToInt(Entry::told).sum();
            default -> BAD_VALUE;
        };
    }

    private static int at(List<Integer> list, int place) {
        return place < 0 ? BAD_VALUE : place < list.size() ? list.get(place) : NONE;
    }

    int ordered(int place) {
        return at(inOrder(), place);
    }

    int queued(int place) {
        return at(queue(), place);
    }

    int clue(int clue, int what) {
        if (!within(clue, 0, 24)) {
            return UNKNOWN;
        }
        List<Outcome> outcomes = replay();
        return switch (what) {
            case 0 -> 100 * (clue / 5 + 1);
            case 1 -> s.wagerClues.contains(clue) ? 1 : 0;
            case 2 -> s.gone.contains(clue) ? 1 : 0;
            case 3 -> answersTo(clue);
            case 4 -> {
                for (int i = 0; i < s.log.size(); i++) {
                    if (s.log.get(i).clue == clue && s.log.get(i).right && !outcomes.get(i).isVoid) {
                        yield s.log.get(i).player;
                    }
                }
                yield NONE;
            }
            default -> BAD_VALUE;
        };
    }

    int entry(int entry, int what) {
        if (!within(entry, 0, s.log.size() - 1)) {
            return UNKNOWN;
        }
        Entry e = s.log.get(entry);
        Outcome outcome = replay().get(entry);
        return switch (what) {
            case 0 -> e.player;
            case 1 -> List.of("first", "steal", "wager", "final", "correction").indexOf(e.sort);
            case 2 -> e.clue;
            case 3 -> e.told;
            case 4 -> outcome.amount;
            case 5 -> e.sort.equals("correction") ? NONE : e.right ? 1 : 0;
            case 6 -> outcome.scoreBehind;
            case 7 -> outcome.isVoid ? 1 : 0;
            default -> BAD_VALUE;
        };
    }

    int count(int what) {
        return switch (what) {
            case 0 -> s.phase;
            case 1 -> s.players;
            case 2 -> 25 - s.gone.size();
            case 3 -> within(s.phase, 1, 3) ? s.clue : NONE;
            case 4 -> control();
            case 5 -> s.log.size();
            case 6 -> {
                int greatest = allPlayers().stream().mapToInt(this::score).max().orElse(0);
                yield allPlayers().stream().filter(p -> score(p) == greatest).mapToInt(p -> 1 << p).sum();
            }
            case 7 -> allPlayers().stream().mapToInt(this::score).sum();
            case 8, 9, 10 -> s.settings.get(what - 8);
            case 11 -> reason;
            case 12 -> history.size();
            case 13 -> text.length();
            case 14 -> nextInFinal();
            default -> BAD_VALUE;
        };
    }

    int messageAt(int index) {
        StringBuilder message = new StringBuilder("phase " + s.phase);
        for (int player : inOrder()) {
            message.append("; p" + player + " " + score(player));
        }
        return index < 0 ? BAD_VALUE : index < message.length() ? message.charAt(index) : NONE;
    }
}
