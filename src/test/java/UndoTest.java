import java.util.Map;
import java.util.function.Consumer;
import java.util.function.Supplier;

/** Promises 49 to 51: undo, save and restore. */
public final class UndoTest {
    private static final int NONE = TableMove.NONE;

    public static void main(String[] args) {
        undoCounts();
        undoBringsBackAll();
        undoBringsBackWhatIsKeptAside();
        whatUndoLeaves();
        save();
        restoreBringsBackAll();
        restoreLeaves();
        Due.end();
    }

    private static void undoCounts() {
        TableMove move = new TableMove();
        Due.answer("undo(), none", move.undo(), NONE);
        for (int i = 0; i < 25; i++) {
            move.put(1, i);
            Due.answer("count(11)", move.count(11), Math.min(i + 1, 10));
        }
        for (int left = 9; left >= 0; left--) {
            Due.answer("undo()", move.undo(), left);
            Due.answer("stored(0, 1)", move.stored(0, 1), left + 14);
        }
        Due.answer("undo(), none", move.undo(), NONE);
        Due.answer("stored(0, 1)", move.stored(0, 1), 14);
        move.put(1, 500);
        move.remove(2);
        move.setUp(1, true);
        Due.answer("undo()", move.undo(), 1);
        Due.answer("undo()", move.undo(), 0);
        Due.answer("stored(0, 1)", move.stored(0, 1), 14);
        move.put(1, 600);
        move.put(1, 700);
        move.undo();
        move.put(1, 800);
        move.undo();
        Due.answer("a change behind an undone one", move.stored(0, 1), 600);
    }

    private static void undone(String change, Supplier<TableMove> made, Consumer<TableMove> call) {
        Map<String, String> before = Seen.state(made);
        TableMove move = made.get();
        int changes = move.count(11);
        call.accept(move);
        Due.answer(change + ": undo()", move.undo(), Math.min(changes, 9));
        Due.answer(change + " changes something", Seen.state(Seen.then(made, call)).equals(before), false);
        Seen.same(change + " is undone", Seen.state(Seen.then(made, other -> {
            call.accept(other);
            other.undo();
        })), before);
    }

    private static void undoBringsBackAll() {
        undone("setForm", TableMove::new, move -> move.setForm(2, 2));
        undone("setUp", TableMove::new, move -> move.setUp(0, false));
        undone("put", TableMove::new, move -> move.put(1, 1));
        undone("fill", TableMove::new, move -> move.fill(0, 59, 1, 1));
        undone("begin", TableMove::new, move -> move.begin());
        undone("damage", Moves::doubled, move -> move.damage(1, 1));
        undone("remove", Moves::doubled, move -> move.remove(1));
        undone("clearRange", Moves::doubled, move -> move.clearRange(0, 59));
        undone("copy", Moves::doubled, move -> move.copy(3));
        undone("check", Moves::copied, move -> move.check(3));
        undone("switchOver", Moves::checked, move -> move.switchOver(3));
        undone("switchBack", Moves::switched, move -> move.switchBack(3));
        undone("lead", Moves::switched, move -> move.lead());
        undone("put after lead", Moves::after, move -> move.put(0, 1));
        undone("goBack(true)", Moves::after, move -> move.goBack(true));
        undone("goBack(false)", Moves::after, move -> move.goBack(false));
        undone("finish", Moves::after, move -> move.finish());
        undone("stop", Moves::checked, move -> move.stop());
        Supplier<TableMove> down = Seen.then(Moves::checked, move -> move.setUp(1, false));
        undone("stale writes", down, move -> move.fill(3, 9, 1, 1));
        Supplier<TableMove> stale = Seen.then(down, move -> {
            move.fill(3, 9, 1, 1);
            move.setUp(1, true);
        });
        undone("repair", stale, move -> move.repair(4));
        undone("doubled writes", stale, move -> move.fill(0, 59, 1, 1));
        undone("goBack(false) with writes", Seen.then(Moves::after, move -> move.fill(0, 25, 1, 1)), move -> move.goBack(false));
        undone("a check that finds a difference", Seen.then(Moves::checked, move -> move.damage(5, 5)), move -> move.check(1));
    }

    private static void undoBringsBackWhatIsKeptAside() {
        TableMove move = Moves.after();
        move.goBack(false);
        for (int chunk = 0; chunk < 15; chunk++) {
            move.check(chunk);
        }
        move.put(7, 5);
        move.lead();
        move.undo();
        move.undo();
        move.put(7, 6);
        move.lead();
        move.put(7, 8);
        move.goBack(false);
        Due.answer("what is kept aside is undone, too", move.stored(0, 7), 6);
    }

    private static void whatUndoLeaves() {
        TableMove move = new TableMove();
        move.put(1, 1);
        move.save(0);
        move.put(1, 2);
        move.write(0);
        Moves.run(move, "put 1 9999;");
        move.appendText(0x73746f70);
        int done = move.account(0);
        move.undo();
        Due.answer("the accounts stay", move.account(0), done);
        Due.text("the output stays", Moves.outputOf(move), "0 1:2/-");
        Due.answer("the latest error stays", move.errorCode(), 2);
        Due.answer("the text stays", move.truncateText(4), 4);
        Due.answer("undone", move.changed(0), 0);
        move.undo();
        Due.answer("the saved state stays", move.changed(0), 1);
        move.restore(0);
        Due.answer("the saved state stays", move.stored(0, 1), 1);
    }

    private static void save() {
        TableMove move = new TableMove();
        Due.argument("save(-1)", () -> move.save(-1));
        Due.argument("save(2)", () -> move.save(2));
        move.save(0);
        Due.answer("save() is no change", move.count(11), 0);
        move.put(1, 1);
        move.save(1);
        Due.answer("save() leaves the changes", move.count(11), 1);
        Due.answer("changed(0)", move.changed(0), 1);
        Due.answer("changed(1)", move.changed(1), 0);
        move.put(2, 2);
        move.save(0);
        Due.answer("it is replaced", move.changed(0), 0);
        move.restore(1);
        Due.answer("restore(1)", move.stored(0, 2), NONE);
        move.restore(0);
        Due.answer("restore(0)", move.stored(0, 2), 2);
    }

    private static void restoreBringsBackAll() {
        Supplier<TableMove> led = Seen.then(Moves::after, move -> {
            move.setUp(0, false);
            move.fill(3, 9, 1, 1);
        });
        Supplier<TableMove> restored = Seen.then(led, move -> {
            move.save(0);
            move.setUp(0, true);
            move.goBack(false);
            move.switchBack(0);
            move.fill(0, 59, 7, 7);
            move.restore(0);
        });
        Seen.same("restore(0)", Seen.state(restored), Seen.state(led));
        Seen.same("it stays saved", Seen.state(Seen.then(restored, move -> {
            move.setUp(0, true);
            move.goBack(false);
            move.restore(0);
        })), Seen.state(led));
        TableMove move = restored.get();
        Due.answer("no change can be undone", move.count(11), 0);
        Due.answer("no change can be undone", move.undo(), NONE);
        move.setUp(0, true);
        move.goBack(false);
        Due.answer("what is kept aside is restored", move.stored(0, 3), 30);
        move.restore(0);
        move.setUp(0, true);
        move.goBack(false);
        move.put(3, 444);
        for (int chunk = 0; chunk < 15; chunk++) {
            move.check(chunk);
        }
        move.lead();
        move.save(1);
        move.restore(0);
        move.setUp(0, true);
        move.goBack(false);
        Due.answer("the earlier one is kept aside again", move.stored(0, 3), 30);
        move.restore(1);
        move.goBack(false);
        Due.answer("the later one is kept aside again", move.stored(1, 3), 544);
        TableMove forms = new TableMove();
        forms.setForm(3, 0);
        forms.save(1);
        forms.setForm(2, 4);
        forms.restore(1);
        Due.answer("the FORM is restored", forms.count(1), 3);
        Due.answer("the AMOUNT is restored", forms.count(2), 0);
    }

    private static void restoreLeaves() {
        TableMove move = new TableMove();
        Due.argument("restore(-1)", () -> move.restore(-1));
        Due.argument("restore(2)", () -> move.restore(2));
        Due.state("restore(1), nothing saved", () -> move.restore(1));
        move.save(1);
        Due.state("restore(0), nothing saved", () -> move.restore(0));
        move.put(1, 1);
        Due.answer("restore(0) changed nothing", move.undo(), 0);
        move.remove(1);
        move.write(3);
        Moves.run(move, "?");
        move.appendText(0);
        move.restore(1);
        Due.answer("the accounts stay", move.account(8), 1);
        Due.answer("the output stays", move.output(0), '3');
        Due.answer("the latest error stays", move.errorCode(), 1);
        Due.answer("the text stays", move.truncateText(4), 4);
        move.save(0);
        move.restore(1);
        Due.answer("the other saved state stays", move.changed(0), 0);
    }
}
