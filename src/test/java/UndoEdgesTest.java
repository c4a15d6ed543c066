import java.util.LinkedHashMap;
import java.util.Map;
import java.util.Set;
import java.util.TreeSet;
import java.util.function.Supplier;

/**
 * Promises 49 to 51 at their edges: every kind of change is undone in every phase, and what undo(),
 * save() and restore() leave is left.
 */
public final class UndoEdgesTest {
    private static final int NONE = TableMove.NONE;
    private static final Set<String> MET = new TreeSet<>();

    public static void main(String[] args) {
        for (Stories.Story story : Stories.all()) {
            changesAreUndone(story);
            changesAreRestored(story);
            saveChangesNothing(story);
            undoOfNone(story);
        }
        for (String change : changes().keySet()) {
            Due.answer(change + " was a change in one of the stories", MET.contains(change), true);
        }
        scriptsAreUndone();
        undoneTwice();
        savedStatesOutlastAll();
        restoreFromEveryPhase();
        Due.end();
    }

    private interface Change {
        /** 0 if it is done. */
        int call(TableMove move);
    }

    /** Calls that are changes in at least one of the stories. */
    private static Map<String, Change> changes() {
        Map<String, Change> changes = new LinkedHashMap<>();
        changes.put("setForm", move -> setting(move.count(0) == 0, () -> move.setForm(3, 0)));
        changes.put("setUp(0, false)", move -> setting(true, () -> move.setUp(0, false)));
        changes.put("setUp(1, true)", move -> setting(true, () -> move.setUp(1, true)));
        changes.put("damage", move -> setting(move.count(0) > 0, () -> move.damage(59, 1)));
        changes.put("damage of a row", move -> setting(move.count(0) > 0, () -> move.damage(0, NONE)));
        changes.put("put", move -> move.put(20, 77));
        changes.put("remove", move -> move.remove(20));
        changes.put("fill", move -> move.fill(0, 59, 3, 7));
        changes.put("clearRange", move -> move.clearRange(0, 59));
        changes.put("begin", TableMove::begin);
        changes.put("copy", move -> move.copy(15));
        changes.put("repair", move -> move.repair(1));
        changes.put("check", move -> move.check(2));
        changes.put("check of the chunk 7", move -> move.check(7));
        changes.put("switchOver", move -> move.switchOver(7));
        changes.put("switchBack", move -> move.switchBack(2));
        changes.put("lead", TableMove::lead);
        changes.put("goBack(true)", move -> move.goBack(true));
        changes.put("goBack(false)", move -> move.goBack(false));
        changes.put("stop", TableMove::stop);
        changes.put("finish", TableMove::finish);
        return changes;
    }

    private static int setting(boolean possible, Runnable call) {
        if (possible) {
            call.run();
        }
        return possible ? 0 : 2;
    }

    private static void allUp(TableMove move) {
        move.setUp(0, true);
        move.setUp(1, true);
    }

    /** The story as it is, with both sides up, with some keys repaired, and farther on its way. */
    private static Map<String, Supplier<TableMove>> ways(Stories.Story story) {
        Map<String, Supplier<TableMove>> ways = new LinkedHashMap<>();
        ways.put(story.name(), story.made());
        ways.put(story.name() + ", both up", Seen.then(story.made(), UndoEdgesTest::allUp));
        ways.put(story.name() + ", repaired", Seen.then(story.made(), move -> {
            allUp(move);
            move.repair(15);
        }));
        for (int acts : new int[] {10, 36, 39, 40, 41}) {
            ways.put(story.name() + ", " + acts + " acts on", Seen.then(story.made(), move -> {
                allUp(move);
                move.advance(acts);
            }));
        }
        return ways;
    }

    private static void changesAreUndone(Stories.Story story) {
        ways(story).forEach((when, made) -> {
            Map<String, String> state = Seen.state(made);
            Map<String, String> apart = Seen.apart(made);
            changes().forEach((name, change) -> undone(when + ": " + name, made, change, state, apart));
        });
    }

    private static void undone(String call, Supplier<TableMove> made, Change change, Map<String, String> state,
            Map<String, String> apart) {
        TableMove move = made.get();
        int changes = move.count(11);
        if (change.call(move) != 0) {
            Due.answer(call + " is refused, and is no change", move.count(11), changes);
            return;
        }
        Due.answer(call + " is a change", move.count(11), Math.min(changes + 1, 10));
        String accounts = Seen.accounts(move);
        Due.answer(call + ": undo()", move.undo(), Math.min(changes, 9));
        Due.text(call + ": undo() leaves the accounts", Seen.accounts(move), accounts);
        Supplier<TableMove> back = Seen.then(made, other -> {
            change.call(other);
            other.undo();
        });
        Seen.same(call + " is undone", Seen.state(back), state);
        Seen.same(call + " and undo() leave the rest", Seen.apart(back), apart);
        MET.add(call.substring(call.indexOf(": ") + 2));
    }

    private static void changesAreRestored(Stories.Story story) {
        Supplier<TableMove> saved = Seen.then(story.made(), move -> move.save(0));
        Supplier<TableMove> restored = Seen.then(saved, move -> {
            allUp(move);
            move.fill(0, 59, 1, 1);
            move.advance(60);
            move.put(0, 5);
            move.restore(0);
        });
        Seen.same(story.name() + ", restored", Seen.state(restored), Seen.state(story.made()));
        Seen.same(story.name() + ", restored: the rest", Seen.apart(restored), Seen.apart(saved));
        Due.answer(story.name() + ", restored: no changes", restored.get().count(11), 0);
        Due.answer(story.name() + ", restored: no changes", restored.get().undo(), NONE);
        TableMove move = story.made().get();
        move.save(1);
        int done = move.account(0);
        allUp(move);
        move.put(0, 5);
        move.restore(1);
        Due.answer(story.name() + ", restored: acts are counted", move.account(0), done + 1);
        move.setUp(0, true);
        Due.answer(story.name() + ", restored: a change behind it", move.undo(), 0);
    }

    private static void saveChangesNothing(Stories.Story story) {
        for (int slot = 0; slot < 2; slot++) {
            int at = slot;
            Map<String, String> due = Seen.all(story.made());
            Map<String, String> got = Seen.all(Seen.then(story.made(), move -> move.save(at)));
            due.keySet().removeIf(view -> view.startsWith("slot " + at));
            got.keySet().removeIf(view -> view.startsWith("slot " + at));
            Seen.same(story.name() + ": save(" + slot + ")", got, due);
            TableMove move = story.made().get();
            move.save(slot);
            Due.answer(story.name() + ": save(" + slot + ") saves all", move.changed(slot), 0);
        }
    }

    private static void undoOfNone(Stories.Story story) {
        Supplier<TableMove> none = Seen.then(story.made(), move -> {
            for (int i = 0; i < 10; i++) {
                move.undo();
            }
        });
        Due.answer(story.name() + ": undo(), none is left", none.get().undo(), NONE);
        Seen.same(story.name() + ": undo(), none is left", Seen.all(Seen.then(none, TableMove::undo)), Seen.all(none));
    }

    private static void scriptsAreUndone() {
        TableMove move = new TableMove();
        Moves.run(move, "put 0 1; put 0 2; begin; copy 15; remove 0; lead; put 0 9;");
        Due.answer("five changes", move.count(11), 5);
        int[] values = {2, 2, 2, 1, NONE};
        int[] phases = {1, 1, 0, 0, 0};
        for (int i = 0; i < 5; i++) {
            Due.answer("undo() of a script", move.undo(), 4 - i);
            Due.answer("undo() of a script", move.stored(0, 0), values[i]);
            Due.answer("undo() of a script", move.count(0), phases[i]);
        }
        Due.answer("the acts stay counted", move.account(0), 5);
        Due.answer("the refusal stays counted", move.account(6), 1);
    }

    private static void undoneTwice() {
        TableMove move = Moves.after();
        move.put(1, 1);
        move.goBack(true);
        move.undo();
        Due.answer("writes since are back", move.count(9), 1);
        Due.text("writes since are back", Moves.since(move), "1=1<10");
        move.put(1, 2);
        Due.text("another write", Moves.since(move), "1=2<1 1=1<10");
        move.goBack(false);
        Due.answer("without them", move.stored(0, 1), 10);
        move.undo();
        Due.answer("undone", move.stored(0, 1), 2);
        move.finish();
        Due.answer("nothing since in the phase 3", move.since(0, 0), NONE);
        move.undo();
        Due.text("writes since are back again", Moves.since(move), "1=2<1 1=1<10");
        move.goBack(false);
        Due.answer("what is kept aside is back, too", move.stored(1, 1), 110);
    }

    private static void savedStatesOutlastAll() {
        TableMove move = new TableMove();
        move.put(0, 1);
        move.save(0);
        move.put(0, 2);
        move.save(1);
        for (int i = 0; i < 20; i++) {
            move.put(0, 3);
        }
        for (int i = 0; i < 5; i++) {
            move.restore(0);
            Due.answer("restore(0)", move.stored(0, 0), 1);
            move.put(0, 9);
            move.undo();
            move.restore(1);
            Due.answer("restore(1)", move.stored(0, 0), 2);
            move.put(0, 9);
            Due.answer("what comes later does not change it", move.changed(1), 1);
        }
        move.save(0);
        Due.answer("the later one is saved", move.changed(0), 0);
        move.restore(1);
        move.restore(0);
        Due.answer("the later one is restored", move.stored(0, 0), 9);
    }

    private static void restoreFromEveryPhase() {
        for (Stories.Story from : Stories.all()) {
            if (!from.saved0() && !from.saved1()) {
                continue;
            }
            int slot = from.saved0() ? 0 : 1;
            TableMove move = from.made().get();
            move.restore(slot);
            int phase = move.count(0);
            Due.answer(from.name() + ": restored", move.changed(slot), 0);
            move.setUp(0, true);
            move.setUp(1, true);
            move.advance(60);
            move.restore(slot);
            Due.answer(from.name() + ": restored again", move.count(0), phase);
            Due.answer(from.name() + ": restored again", move.changed(slot), 0);
        }
    }
}
