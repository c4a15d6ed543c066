/** Promises 38 to 48: more about both tables, events by kind, and the output. */
public final class BothTablesTest {
    private static final int NONE = TableMove.NONE;

    public static void main(String[] args) {
        differing();
        lookup();
        total();
        mean();
        agreement();
        readSum();
        written();
        changed();
        eventsOf();
        write();
        output();
        Due.end();
    }

    private static void differing() {
        TableMove move = Moves.doubled();
        Due.answer("nothing is copied", move.differing(0), 0);
        Due.answer("nothing is copied", move.differing(59), 59);
        Due.answer("nothing is copied", move.differing(60), NONE);
        move.copy(15);
        Due.answer("all is copied", move.differing(0), NONE);
        move.damage(50, 0);
        move.damage(7, NONE);
        move.damage(9, 191);
        Due.answer("differing(0)", move.differing(0), 7);
        Due.answer("differing(1)", move.differing(1), 9);
        Due.answer("differing(2)", move.differing(2), 50);
        Due.answer("differing(3)", move.differing(3), NONE);
        Due.answer("differing(MAX)", move.differing(Integer.MAX_VALUE), NONE);
        Due.index("differing(-1)", () -> move.differing(-1));
        TableMove before = new TableMove();
        before.put(0, 0);
        Due.answer("in the phase 0", before.differing(0), NONE);
        Due.index("differing(-1) in the phase 0", () -> before.differing(-1));
        Due.answer("in the phase 3", Moves.over().differing(0), NONE);
        TableMove after = Moves.after();
        after.damage(3, 0);
        after.check(0);
        after.repair(1);
        Due.answer("a broken cell differs from each value", after.differing(0), 3);
    }

    private static void lookup() {
        TableMove move = Moves.copied();
        move.put(30, 50);
        Due.answer("lookup(0, 50)", move.lookup(0, 50), 5);
        Due.answer("lookup(1, 50)", move.lookup(1, 50), 5);
        move.damage(5, 0);
        Due.answer("lookup(1, 50), broken", move.lookup(1, 50), 30);
        Due.answer("lookup(1, 0)", move.lookup(1, 0), 0);
        Due.answer("lookup(0, 999)", move.lookup(0, 999), NONE);
        move.put(59, 999);
        Due.answer("lookup(0, 999)", move.lookup(0, 999), 59);
        move.setUp(1, false);
        Due.answer("lookup(1, 999), down", move.lookup(1, 999), 59);
        Due.answer("an empty table", new TableMove().lookup(0, 0), NONE);
        Due.index("lookup(-1, -1)", () -> move.lookup(-1, -1));
        Due.index("lookup(2, 0)", () -> move.lookup(2, 0));
        Due.argument("lookup(0, -1)", () -> move.lookup(0, -1));
        Due.argument("lookup(1, 1000)", () -> move.lookup(1, 1000));
    }

    private static void totals(String when, TableMove move, int side, int... want) {
        for (int what = 0; what < want.length; what++) {
            Due.answer(when + ": total(" + side + ", " + what + ")", move.total(side, what), want[what]);
        }
    }

    private static void total() {
        totals("empty", new TableMove(), 0, 0, NONE, NONE, 0);
        TableMove move = Moves.copied();
        totals("copied", move, 0, 17700, 0, 590, 0);
        totals("copied", move, 1, 17700, 0, 590, 0);
        move.damage(0, 99);
        move.damage(59, 2000);
        move.damage(58, 1099);
        move.damage(57, NONE);
        totals("damaged", move, 1, 17700 - 590 - 580 + 999 - 570, 10, 999, 2);
        totals("damaged", move, 0, 17700, 0, 590, 0);
        move.setUp(1, false);
        move.setUp(0, false);
        totals("down", move, 1, 17700 - 590 - 580 + 999 - 570, 10, 999, 2);
        totals("down", move, 0, 17700, 0, 590, 0);
        TableMove broken = Moves.doubled();
        broken.damage(3, 3);
        totals("only a broken cell", broken, 1, 0, NONE, NONE, 1);
        TableMove one = new TableMove();
        one.put(7, 0);
        totals("one row", one, 0, 0, 0, 0, 0);
        Due.index("total(-1, 9)", () -> move.total(-1, 9));
        Due.index("total(2, 0)", () -> move.total(2, 0));
        Due.argument("total(0, -1)", () -> move.total(0, -1));
        Due.argument("total(1, 4)", () -> move.total(1, 4));
    }

    private static void mean() {
        TableMove move = new TableMove();
        Due.real("mean(0), empty", move.mean(0), -1.0);
        move.put(0, 0);
        Due.real("mean(0)", move.mean(0), 0.0);
        move.put(1, 1);
        move.put(2, 1);
        Due.real("mean(0)", move.mean(0), 2.0 / 3.0);
        move.setForm(1, 5);
        move.begin();
        Due.real("mean(1), empty", move.mean(1), -1.0);
        move.damage(9, 0);
        Due.real("mean(1), only a broken cell", move.mean(1), -1.0);
        move.copy(1);
        Due.real("mean(1), broken cells have no values", move.mean(1), 2.0 / 3.0);
        Due.index("mean(-1)", () -> move.mean(-1));
        Due.index("mean(2)", () -> move.mean(2));
    }

    private static void agreement() {
        TableMove move = new TableMove();
        Due.real("no key", move.agreement(), 1.0);
        move.setForm(2, 2);
        move.fill(0, 2, 5, 1);
        Due.real("only the old table", move.agreement(), 0.0);
        move.begin();
        move.copy(1);
        Due.real("all agree", move.agreement(), 1.0);
        move.damage(1, 3);
        Due.real("a broken cell", move.agreement(), 2.0f / 3.0f);
        move.damage(20, 4);
        Due.real("a row that the old table has not", move.agreement(), 0.5);
        move.damage(0, NONE);
        move.damage(21, 4);
        move.damage(22, 4);
        Due.real("one of six", move.agreement(), 1.0f / 6.0f);
        Due.real("in the phase 3", Moves.over().agreement(), 0.0);
    }

    private static void readSum() {
        TableMove move = Moves.checked();
        move.switchOver(2);
        Due.answer("readSum(0, 0, 59)", move.readSum(0, 0, 59), 17700);
        Due.answer("readSum(2, 0, 59)", move.readSum(2, 0, 59), 17700);
        Due.answer("readSum(2, 5, 5)", move.readSum(2, 5, 5), 50);
        move.damage(6, NONE);
        move.damage(8, 0);
        Due.answer("readSum(2, 5, 7), a row is missing", move.readSum(2, 5, 7), 120);
        Due.answer("readSum(2, 6, 6), a row is missing", move.readSum(2, 6, 6), 0);
        Due.answer("readSum(2, 5, 8), broken", move.readSum(2, 5, 8), TableMove.BROKEN);
        Due.answer("readSum(2, 8, 59), broken", move.readSum(2, 8, 59), TableMove.BROKEN);
        Due.answer("readSum(2, 9, 10)", move.readSum(2, 9, 10), 190);
        Due.answer("readSum(0, 5, 8)", move.readSum(0, 5, 8), 260);
        move.setUp(1, false);
        Due.answer("readSum(2, 8, 8), down", move.readSum(2, 8, 8), TableMove.DOWN);
        Due.answer("readSum(2, 6, 6), down", move.readSum(2, 6, 6), TableMove.DOWN);
        Due.answer("readSum(0, 8, 8)", move.readSum(0, 8, 8), 80);
        Due.index("readSum(-1, 0, 1)", () -> move.readSum(-1, 0, 1));
        Due.index("readSum(8, 0, 1)", () -> move.readSum(8, 0, 1));
        Due.index("readSum(0, -1, 1)", () -> move.readSum(0, -1, 1));
        Due.index("readSum(0, 0, 60)", () -> move.readSum(0, 0, 60));
        Due.index("readSum(0, 60, 60)", () -> move.readSum(0, 60, 60));
        Due.index("readSum(0, 5, 4)", () -> move.readSum(0, 5, 4));
    }

    private static void written() {
        TableMove move = Moves.after();
        Due.answer("written(3)", move.written(3), 1);
        move.put(3, 3);
        move.remove(3);
        move.remove(3);
        move.clearRange(2, 4);
        move.fill(3, 3, 1, 1);
        Due.answer("written(2)", move.written(2), 2);
        Due.answer("written(3)", move.written(3), 4);
        Due.answer("written(5)", move.written(5), 1);
        move.undo();
        Due.answer("undone writes do not count", move.written(3), 3);
        move.damage(3, 5);
        move.goBack(false);
        Due.answer("damage() and a way back are no writes", move.written(3), 3);
        Due.index("written(-1)", () -> move.written(-1));
        Due.index("written(60)", () -> move.written(60));
    }

    private static void changed() {
        TableMove move = Moves.doubled();
        Due.answer("changed(0), nothing saved", move.changed(0), NONE);
        move.save(1);
        Due.answer("changed(0), nothing saved", move.changed(0), NONE);
        Due.answer("changed(1)", move.changed(1), 0);
        move.copy(1);
        Due.answer("changed(1), a chunk copied", move.changed(1), 4);
        move.put(0, 5);
        Due.answer("changed(1), one key in both", move.changed(1), 4);
        move.put(59, 5);
        Due.answer("changed(1)", move.changed(1), 5);
        move.damage(20, 0);
        Due.answer("changed(1), damaged", move.changed(1), 6);
        move.save(0);
        Due.answer("changed(0)", move.changed(0), 0);
        move.undo();
        Due.answer("changed(0), undone", move.changed(0), 1);
        Due.answer("changed(1), undone", move.changed(1), 5);
        Due.index("changed(-1)", () -> move.changed(-1));
        Due.index("changed(2)", () -> move.changed(2));
        TableMove forms = new TableMove();
        forms.put(1, 1);
        forms.begin();
        forms.copy(1);
        forms.save(0);
        forms.stop();
        forms.setForm(1, 1);
        forms.begin();
        forms.copy(1);
        Due.answer("what is stored counts, not the value", forms.changed(0), 1);
    }

    private static void eventsOf() {
        TableMove move = Moves.doubled();
        Due.answer("eventsOf(0, 0)", move.eventsOf(0, 0), 29);
        Due.answer("eventsOf(0, 1)", move.eventsOf(0, 1), 59);
        Due.answer("eventsOf(8, 0)", move.eventsOf(8, 0), 1);
        Due.answer("eventsOf(8, 1)", move.eventsOf(8, 1), 1);
        Due.answer("eventsOf(2, 0)", move.eventsOf(2, 0), 0);
        Due.answer("eventsOf(2, 1)", move.eventsOf(2, 1), NONE);
        move.copy(15);
        move.copy(1);
        Due.answer("eventsOf(2, 0)", move.eventsOf(2, 0), 15);
        Due.answer("eventsOf(2, 1)", move.eventsOf(2, 1), 14);
        Due.answer("eventsOf(0, 0)", move.eventsOf(0, 0), 14);
        move.fill(0, 29, 0, 0);
        Due.answer("eventsOf(8, 1), not kept", move.eventsOf(8, 1), NONE);
        Due.argument("eventsOf(-1, 0)", () -> move.eventsOf(-1, 0));
        Due.argument("eventsOf(9, 0)", () -> move.eventsOf(9, 0));
        Due.argument("eventsOf(0, -1)", () -> move.eventsOf(0, -1));
        Due.argument("eventsOf(0, 2)", () -> move.eventsOf(0, 2));
    }

    private static void write() {
        TableMove move = new TableMove();
        Due.text("write(0)", Moves.written(move, 0), "0");
        move.setForm(1, 100);
        move.put(0, 7);
        move.put(2, 10);
        move.put(3, 999);
        Due.text("write(0)", Moves.written(move, 0), "0 0:7/- 2:10/- 3:999/-");
        move.begin();
        move.copy(15);
        Due.text("write(0)", Moves.written(move, 0), "0 copied 0:7/7 2:10/10 3:999/999");
        move.check(0);
        move.damage(1, 100);
        move.damage(2, 99);
        Due.text("write(0)", Moves.written(move, 0), "0 copied checked 0:7/7 1:-/0 2:10/? 3:999/999");
        move.setUp(1, false);
        move.remove(0);
        move.put(3, 100);
        Due.text("write(0)", Moves.written(move, 0), "0 copied 0:-/7! 1:-/0 2:10/? 3:100/999!");
        move.fill(56, 59, 996, 1);
        move.clearRange(57, 58);
        Due.text("write(14)", Moves.written(move, 14), "14 copied 56:996/-! 59:999/-!");
        Due.text("write(7)", Moves.written(move, 7), "7 copied");
        TableMove over = Moves.over();
        Due.text("in the phase 3", Moves.written(over, 1), "1 4:-/40 5:-/50 6:-/60 7:-/70");
        Due.text("longest", Moves.written(Moves.checked(), 14),
            "14 copied checked 56:560/560 57:570/570 58:580/580 59:590/590");
        Due.index("write(-1)", () -> move.write(-1));
        Due.index("write(15)", () -> move.write(15));
        Due.text("the output stays", Moves.outputOf(move), "7 copied");
    }

    private static void output() {
        TableMove move = new TableMove();
        Due.answer("output(0), nothing written", move.output(0), NONE);
        move.write(12);
        Due.answer("output(-1)", move.output(-1), NONE);
        Due.answer("output(0)", move.output(0), '1');
        Due.answer("output(1)", move.output(1), '2');
        Due.answer("output(2)", move.output(2), NONE);
        Due.answer("output(MAX)", move.output(Integer.MAX_VALUE), NONE);
        Due.answer("output(MIN)", move.output(Integer.MIN_VALUE), NONE);
        move.put(1, 1);
        move.save(0);
        move.undo();
        move.restore(0);
        Moves.run(move, "begin;");
        Due.answer("it stays", move.output(1), '2');
        move.write(1);
        Due.answer("it is replaced", move.output(0), '1');
        Due.answer("it is replaced", move.output(1), NONE);
    }
}
