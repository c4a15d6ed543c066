import java.util.ArrayList;
import java.util.Arrays;
import java.util.HashMap;
import java.util.List;
import java.util.Map;
import java.util.Set;
import java.util.TreeSet;
import java.util.function.Consumer;
import java.util.function.Supplier;

/**
 * Promises 20 to 35, and the part ACTS of the document: every act in every mixture of what may speak
 * against it. It answers the reason that is named first, as why() tells, and a refused act changes
 * nothing but the accounts.
 */
public final class ReasonsTest {
    private static final String[] ACTS = {"begin", "copy", "repair", "check", "switchOver", "switchBack", "lead", "goBack",
        "goBack without", "stop", "finish"};
    /** The chunk of check(), and the reader of switchOver() and switchBack(). */
    private static final int NUMBER = 5;
    private static final int KEY = 21;

    /** Each act with each pair of reasons that can both apply; the one that comes first in the document is due. */
    private static final String[] PAIRS = {"begin 2 1", "copy 2 1", "copy 2 9", "copy 1 9", "repair 2 1", "repair 2 9",
        "repair 1 9", "check 2 1", "check 2 3", "check 1 3", "check 1 4", "check 3 4", "switchOver 2 5", "switchOver 2 1",
        "switchOver 2 3", "switchOver 2 6", "switchOver 5 1", "switchOver 5 4", "switchOver 5 6", "switchOver 1 3",
        "switchOver 1 4", "switchOver 1 6", "switchOver 3 4", "switchOver 3 6", "switchOver 4 6", "switchBack 2 5",
        "switchBack 2 1", "switchBack 5 1", "switchBack 5 4", "switchBack 1 4", "lead 2 1", "lead 2 3", "lead 2 4",
        "lead 2 6", "lead 2 7", "lead 1 3", "lead 1 4", "lead 1 6", "lead 1 7", "lead 3 4", "lead 3 6", "lead 3 7",
        "lead 4 6", "lead 4 7", "lead 6 7", "goBack 2 1", "goBack 2 4", "goBack 1 4", "goBack without 2 1", "stop 2 7",
        "finish 2 7", "finish 2 1", "finish 7 1", "remove 1 8", "clearRange 1 8"};
    /** Each act with each reason that can apply alone, and done. */
    private static final String[] ALONE = {"begin 0", "begin 2", "begin 1", "copy 0", "copy 2", "copy 1", "copy 9",
        "repair 0", "repair 1", "repair 9", "check 0", "check 1", "check 3", "check 4", "switchOver 0",
        "switchOver 5", "switchOver 1", "switchOver 6", "switchBack 0", "switchBack 2", "switchBack 5", "switchBack 1",
        "switchBack 4", "lead 0", "lead 2", "lead 1", "lead 6", "lead 7", "goBack 0", "goBack 2", "goBack 1", "goBack 4",
        "goBack without 0", "goBack without 2", "goBack without 1", "stop 0", "stop 2", "stop 7", "finish 0", "finish 2",
        "finish 7", "finish 1", "put 0", "put 1", "remove 0", "remove 1", "remove 8", "fill 0", "fill 1", "clearRange 0",
        "clearRange 1", "clearRange 8"};

    private static final Set<String> MET = new TreeSet<>();

    public static void main(String[] args) {
        Map<String, Supplier<TableMove>> states = states();
        for (Map.Entry<String, Supplier<TableMove>> state : states.entrySet()) {
            actsOf(state.getKey(), state.getValue());
        }
        for (String pair : PAIRS) {
            Due.answer("both reasons were there: " + pair, MET.contains(pair), true);
        }
        for (String alone : ALONE) {
            Due.answer("it was there alone: " + alone, MET.contains(alone), true);
        }
        Due.end();
    }

    // ---- what speaks against acts

    private static Map<String, Supplier<TableMove>> bases() {
        Map<String, Supplier<TableMove>> bases = new HashMap<>();
        bases.put("new", TableMove::new);
        bases.put("rows", Seen.then(TableMove::new, move -> move.fill(0, 59, 0, 10)));
        bases.put("doubled", Moves::doubled);
        bases.put("some copied", Seen.then(Moves::doubled, move -> move.copy(NUMBER)));
        bases.put("all but one copied", Seen.then(Moves::doubled, move -> move.copy(14)));
        bases.put("copied", Moves::copied);
        bases.put("all but the last checked", Seen.then(Moves::copied, move -> checks(move, 0, 13)));
        bases.put("all but the first checked", Seen.then(Moves::copied, move -> checks(move, 1, 14)));
        bases.put("checked", Moves::checked);
        bases.put("one switched", Seen.then(Moves::checked, move -> move.switchOver(NUMBER)));
        bases.put("switched", Moves::switched);
        bases.put("all but one switched", Seen.then(Moves::switched, move -> move.switchBack(NUMBER)));
        bases.put("all but another one switched", Seen.then(Moves::switched, move -> move.switchBack(7)));
        bases.put("after", Moves::after);
        bases.put("after, one back", Seen.then(Moves::after, move -> move.switchBack(NUMBER)));
        bases.put("after, the first one back", Seen.then(Moves::after, move -> move.switchBack(0)));
        bases.put("gone back", Seen.then(Moves::after, move -> move.goBack(true)));
        bases.put("over", Moves::over);
        return bases;
    }

    private static void checks(TableMove move, int from, int to) {
        for (int chunk = from; chunk <= to; chunk++) {
            move.check(chunk);
        }
    }

    private static Map<String, Consumer<TableMove>> events() {
        Map<String, Consumer<TableMove>> events = new HashMap<>();
        events.put("nothing", move -> { });
        events.put("the key stale", move -> staleKey(move, KEY));
        events.put("the last key stale", move -> staleKey(move, 59));
        events.put("the row missing", move -> move.remove(KEY));
        events.put("a chunk that differs", move -> damage(move, 0, 500));
        events.put("the last chunk differs", move -> damage(move, 59, TableMove.NONE));
        return events;
    }

    private static void staleKey(TableMove move, int key) {
        int follower = 1 - move.count(14);
        move.setUp(follower, false);
        move.put(key, 1);
        move.setUp(follower, true);
    }

    private static void damage(TableMove move, int key, int cell) {
        if (move.count(0) != 0) {
            move.damage(key, cell);
        }
    }

    private static Map<String, Supplier<TableMove>> states() {
        Map<String, Supplier<TableMove>> states = new HashMap<>();
        bases().forEach((base, made) -> events().forEach((event, change) -> {
            for (int sides = 0; sides < 4; sides++) {
                boolean old = sides % 2 == 0;
                boolean fresh = sides / 2 == 0;
                states.put(base + ", " + event + ", old " + old + ", new " + fresh, Seen.then(made, move -> {
                    change.accept(move);
                    move.setUp(0, old);
                    move.setUp(1, fresh);
                }));
            }
        }));
        return states;
    }

    // ---- which reasons the document names, in its order

    private record Facts(int phase, boolean oldDown, boolean newDown, boolean notCopied, boolean numberNotCopied, boolean stale,
            boolean numberStale, boolean notChecked, boolean differs, int switched, boolean numberSwitched, boolean noRow) {
    }

    private static Facts facts(TableMove move) {
        int switched = 0;
        int differing = 0;
        for (int reader = 0; reader < 8; reader++) {
            switched += move.isSwitched(reader) ? 1 : 0;
        }
        for (int chunk = 0; chunk < 15; chunk++) {
            differing += move.chunk(chunk, 2) == move.chunk(chunk, 3) ? 0 : 1;
        }
        return new Facts(move.count(0), move.count(12) == 0, move.count(13) == 0, move.count(5) < 15,
            move.chunk(NUMBER, 0) == 0, move.count(7) > 0, move.chunk(NUMBER, 4) > 0, move.count(6) < 15, differing > 0,
            switched, move.isSwitched(NUMBER), move.stored(move.count(14), KEY) == TableMove.NONE);
    }

    /** The reasons that apply, out of pairs: a reason, and whether it applies. */
    private static List<Integer> applying(Object... pairs) {
        List<Integer> reasons = new ArrayList<>();
        for (int i = 0; i < pairs.length; i += 2) {
            if ((Boolean) pairs[i + 1]) {
                reasons.add((Integer) pairs[i]);
            }
        }
        return reasons;
    }

    private static List<Integer> reasons(String act, Facts f) {
        boolean down = f.oldDown() || f.newDown();
        boolean both = f.phase() == 1 || f.phase() == 2;
        boolean leaderDown = f.phase() < 2 ? f.oldDown() : f.newDown();
        switch (act) {
            case "begin": return applying(2, f.phase() != 0, 1, down);
            case "copy": case "copy 15": return applying(2, f.phase() != 1, 1, down, 9, !f.notCopied());
            case "repair": case "repair 15": return applying(2, !both, 1, down, 9, !f.stale());
            case "check": return applying(2, !both, 1, down, 3, f.numberNotCopied(), 4, f.numberStale());
            case "switchOver": return applying(2, !both, 5, f.numberSwitched(), 1, f.newDown(), 3, f.notCopied(),
                4, f.stale() && f.phase() == 1, 6, f.notChecked());
            case "switchBack": return applying(2, !both, 5, !f.numberSwitched(), 1, f.oldDown(), 4, f.stale() && f.phase() == 2);
            case "lead": return applying(2, f.phase() != 1, 1, down, 3, f.notCopied(), 4, f.stale(),
                6, f.notChecked() || f.differs(), 7, f.switched() < 8);
            case "goBack": return applying(2, f.phase() != 2, 1, down, 4, f.stale());
            case "goBack without": return applying(2, f.phase() != 2, 1, down);
            case "stop": return applying(2, f.phase() != 1, 7, f.switched() > 0);
            case "finish": return applying(2, f.phase() != 2, 7, f.switched() < 8, 1, f.newDown());
            case "put": case "fill": return applying(1, leaderDown);
            default: return applying(1, leaderDown, 8, f.noRow());
        }
    }

    private static int done(TableMove move, String act) {
        switch (act) {
            case "begin": return move.begin();
            case "copy": return move.copy(1);
            case "copy 15": return move.copy(15);
            case "repair": return move.repair(1);
            case "repair 15": return move.repair(15);
            case "check": return move.check(NUMBER);
            case "switchOver": return move.switchOver(NUMBER);
            case "switchBack": return move.switchBack(NUMBER);
            case "lead": return move.lead();
            case "goBack": return move.goBack(true);
            case "goBack without": return move.goBack(false);
            case "stop": return move.stop();
            case "finish": return move.finish();
            case "put": return move.put(KEY, 5);
            case "fill": return move.fill(KEY, KEY + 3, 5, 5);
            case "remove": return move.remove(KEY);
            default: return move.clearRange(KEY, KEY);
        }
    }

    private static List<String> acts() {
        List<String> acts = new ArrayList<>(List.of(ACTS));
        acts.addAll(List.of("copy 15", "repair 15", "put", "fill", "remove", "clearRange"));
        return acts;
    }

    private static void actsOf(String when, Supplier<TableMove> state) {
        Facts facts = facts(state.get());
        List<String> refused = new ArrayList<>();
        for (String act : acts()) {
            List<Integer> reasons = reasons(act, facts);
            int due = reasons.isEmpty() ? 0 : reasons.get(0);
            met(act, reasons);
            TableMove move = state.get();
            int[] accounts = accounts(move);
            why(when, move, act, due);
            Due.text(when + ": why() counts nothing", Arrays.toString(accounts(move)), Arrays.toString(accounts));
            Due.answer(when + ": " + act, done(move, act), due);
            accounts[due]++;
            Due.text(when + ": accounts after " + act, Arrays.toString(accounts(move)), Arrays.toString(accounts));
            if (due != 0) {
                refused.add(act);
            }
        }
        Supplier<TableMove> asked = Seen.then(state, move -> refused.forEach(act -> done(move, act)));
        Seen.same(when + " after the refused " + refused, Seen.all(asked), Seen.all(state));
    }

    private static void why(String when, TableMove move, String act, int due) {
        int place = List.of(ACTS).indexOf(act);
        if (place < 0) {
            return;
        }
        Due.answer(when + ": why(" + act + ")", move.why(place, NUMBER), due);
        if (place < 3 || place > 5) {
            for (int number : new int[] {Integer.MIN_VALUE, -1, 0, 15, Integer.MAX_VALUE}) {
                Due.answer(when + ": why(" + act + ", " + number + ")", move.why(place, number), due);
            }
        }
    }

    /** Only the reason that comes first is the answer, so pairs are those of it with the others. */
    private static void met(String act, List<Integer> reasons) {
        if (reasons.size() < 2) {
            MET.add(act + " " + (reasons.isEmpty() ? 0 : reasons.get(0)));
        }
        for (int i = 1; i < reasons.size(); i++) {
            MET.add(act + " " + reasons.get(0) + " " + reasons.get(i));
        }
    }

    private static int[] accounts(TableMove move) {
        int[] accounts = new int[10];
        for (int what = 0; what < 10; what++) {
            accounts[what] = move.account(what);
        }
        return accounts;
    }
}
