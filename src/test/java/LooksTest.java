/** Promises 10 to 20: what there is. */
public final class LooksTest {
    private static final int NONE = TableMove.NONE;

    public static void main(String[] args) {
        count();
        stored();
        read();
        isSwitched();
        chunk();
        sums();
        stale();
        brokenPromise();
        troubledReaders();
        event();
        eventsThatAreKept();
        since();
        account();
        Due.end();
    }

    private static void counts(String when, TableMove move, int... want) {
        for (int what = 0; what < want.length; what++) {
            Due.answer(when + ": count(" + what + ")", move.count(what), want[what]);
        }
    }

    private static void count() {
        TableMove move = Moves.doubled();
        counts("doubled", move, 1, 1, 100, 60, 0, 0, 0, 0, 0, 0, 30, 3, 1, 1, 0);
        move.copy(3);
        move.check(0);
        counts("copied 3, checked 1", move, 1, 1, 100, 60, 12, 3, 1, 0, 0, 0, 30, 5, 1, 1, 0);
        move.setUp(1, false);
        move.remove(1);
        move.put(20, 5);
        counts("new side down", move, 1, 1, 100, 59, 12, 3, 0, 2, 0, 0, 30, 8, 1, 0, 0);
        TableMove after = Moves.after();
        counts("after", after, 2, 1, 100, 60, 60, 15, 15, 0, 8, 0, 30, 10, 1, 1, 1);
        after.fill(0, 24, 1, 1);
        after.remove(0);
        after.remove(0);
        counts("after 26 writes", after, 2, 1, 100, 59, 59, 15, 15, 0, 8, 26, 30, 10, 1, 1, 1);
        after.goBack(true);
        counts("gone back", after, 1, 1, 100, 59, 59, 15, 0, 0, 8, 0, 30, 10, 1, 1, 0);
        after.undo();
        Due.answer("count(9) after undo()", after.count(9), 26);
        counts("over", Moves.over(), 3, 1, 100, 0, 60, 0, 0, 0, 8, 0, 30, 10, 1, 1, 1);
        Due.argument("count(-1)", () -> move.count(-1));
        Due.argument("count(15)", () -> move.count(15));
        Due.argument("count(MAX)", () -> move.count(Integer.MAX_VALUE));
    }

    private static void stored() {
        TableMove move = Moves.doubled();
        Due.answer("stored(0, 59)", move.stored(0, 59), 590);
        Due.answer("stored(1, 59)", move.stored(1, 59), NONE);
        move.put(59, 7);
        Due.answer("stored(1, 59)", move.stored(1, 59), 107);
        move.setUp(0, false);
        move.setUp(1, false);
        Due.answer("stored(0, 0) of a side that is down", move.stored(0, 0), 0);
        Due.answer("stored(1, 59) of a side that is down", move.stored(1, 59), 107);
        Due.index("stored(-1, 0)", () -> move.stored(-1, 0));
        Due.index("stored(2, 0)", () -> move.stored(2, 0));
        Due.index("stored(0, -1)", () -> move.stored(0, -1));
        Due.index("stored(1, 60)", () -> move.stored(1, 60));
    }

    private static void read() {
        TableMove move = Moves.checked();
        move.switchOver(3);
        Due.answer("read(0, 5)", move.read(0, 5), 50);
        Due.answer("read(3, 5)", move.read(3, 5), 50);
        move.damage(5, 107);
        Due.answer("read(0, 5), other cell", move.read(0, 5), 50);
        Due.answer("read(3, 5), other cell", move.read(3, 5), 7);
        move.damage(5, 99);
        Due.answer("read(3, 5), broken", move.read(3, 5), TableMove.BROKEN);
        move.damage(5, NONE);
        Due.answer("read(3, 5), no row", move.read(3, 5), NONE);
        Due.answer("read(2, 5)", move.read(2, 5), 50);
        move.setUp(1, false);
        Due.answer("read(3, 5), down", move.read(3, 5), TableMove.DOWN);
        Due.answer("read(3, 6), down", move.read(3, 6), TableMove.DOWN);
        Due.answer("read(2, 5), new side down", move.read(2, 5), 50);
        move.setUp(0, false);
        Due.answer("read(2, 5), down", move.read(2, 5), TableMove.DOWN);
        Due.answer("read(7, 59) in the phase 3", Moves.over().read(7, 59), 590);
        Due.index("read(-1, 0)", () -> move.read(-1, 0));
        Due.index("read(8, 0)", () -> move.read(8, 0));
        Due.index("read(0, -1)", () -> move.read(0, -1));
        Due.index("read(0, 60)", () -> move.read(0, 60));
    }

    private static void isSwitched() {
        TableMove move = Moves.checked();
        move.switchOver(7);
        Due.answer("isSwitched(7)", move.isSwitched(7), true);
        Due.answer("isSwitched(6)", move.isSwitched(6), false);
        Due.answer("isSwitched(0)", move.isSwitched(0), false);
        move.switchBack(7);
        Due.answer("isSwitched(7), back", move.isSwitched(7), false);
        Due.answer("isSwitched(0) in the phase 3", Moves.over().isSwitched(0), true);
        Due.index("isSwitched(-1)", () -> move.isSwitched(-1));
        Due.index("isSwitched(8)", () -> move.isSwitched(8));
    }

    private static void facts(String when, TableMove move, int chunk, int... want) {
        for (int what = 0; what < want.length; what++) {
            Due.answer(when + ": chunk(" + chunk + ", " + what + ")", move.chunk(chunk, what), want[what]);
        }
    }

    private static void chunk() {
        TableMove move = Moves.doubled();
        facts("doubled", move, 0, 0, 0, 1 + 22 + 63 + 124, 0, 0, 0);
        move.copy(1);
        facts("copied", move, 0, 1, 0, 210, 210, 0, NONE);
        facts("copied", move, 1, 0, 0, 5 * 41 + 6 * 51 + 7 * 61 + 8 * 71, 0, 0, 4);
        move.check(0);
        facts("checked", move, 0, 1, 1, 210, 210, 0, NONE);
        move.damage(2, 99);
        facts("damaged", move, 0, 1, 1, 210, 147 + 3 * 1001, 0, 2);
        move.setUp(1, false);
        move.put(1, 0);
        move.remove(3);
        move.put(3, 5);
        facts("stale", move, 0, 1, 0, 1 + 2 + 63 + 24, 147 + 3 * 1001, 2, 1);
        TableMove before = new TableMove();
        before.put(59, 999);
        facts("before", before, 14, 0, 0, 60000, 0, 0, NONE);
        facts("over", Moves.over(), 0, 0, 0, 0, 210, 0, NONE);
        Due.index("chunk(-1, 0)", () -> move.chunk(-1, 0));
        Due.index("chunk(15, 9)", () -> move.chunk(15, 9));
        Due.argument("chunk(14, -1)", () -> move.chunk(14, -1));
        Due.argument("chunk(0, 6)", () -> move.chunk(0, 6));
    }

    private static void sums() {
        TableMove move = new TableMove();
        move.put(0, 3);
        move.put(1, 1);
        move.begin();
        move.copy(15);
        move.damage(0, 1);
        move.damage(1, 2);
        Due.answer("the sums are the same", move.chunk(0, 2), move.chunk(0, 3));
        Due.answer("but the rows differ", move.chunk(0, 5), 0);
        move.check(0);
        Due.answer("a chunk whose rows differ may be checked", move.chunk(0, 1), 1);
        Due.answer("brokenPromise() tells it", move.brokenPromise(), 0);
    }

    private static void stale() {
        TableMove move = Moves.doubled();
        move.setUp(1, false);
        move.put(9, 1);
        move.put(3, 1);
        move.put(40, 1);
        move.put(3, 2);
        move.put(9, 3);
        Due.text("the queue keeps its order", Moves.queue(move), "9 3 40");
        Due.answer("stale(3)", move.stale(3), NONE);
        Due.answer("stale(60)", move.stale(60), NONE);
        Due.answer("stale(MAX)", move.stale(Integer.MAX_VALUE), NONE);
        Due.index("stale(-1)", () -> move.stale(-1));
        move.setUp(1, true);
        move.put(3, 4);
        Due.text("a write that is doubled leaves the queue", Moves.queue(move), "9 40");
        move.setUp(1, false);
        move.put(3, 5);
        Due.text("and comes back behind the others", Moves.queue(move), "9 40 3");
        move.setUp(1, true);
        move.stop();
        Due.answer("none in the phase 0", move.stale(0), NONE);
        TableMove full = Moves.doubled();
        full.setUp(1, false);
        full.fill(0, 59, 1, 1);
        full.clearRange(0, 59);
        Due.answer("60 stale keys", full.count(7), 60);
        Due.answer("stale(59)", full.stale(59), 59);
    }

    private static void brokenPromise() {
        TableMove move = Moves.doubled();
        Due.answer("not copied", move.brokenPromise(), NONE);
        move.copy(2);
        move.damage(7, NONE);
        move.damage(5, 5);
        move.damage(30, 5);
        Due.answer("the lowest one", move.brokenPromise(), 5);
        move.setUp(1, false);
        move.put(5, 5);
        Due.answer("a stale one is excused", move.brokenPromise(), 7);
        move.remove(7);
        Due.answer("stale, and the same", move.brokenPromise(), NONE);
        Due.answer("in the phase 0", new TableMove().brokenPromise(), NONE);
        TableMove over = Moves.over();
        Due.answer("in the phase 3", over.brokenPromise(), NONE);
        TableMove after = Moves.after();
        after.damage(59, 0);
        Due.answer("in the phase 2", after.brokenPromise(), 59);
    }

    private static void troubledReaders() {
        TableMove move = Moves.checked();
        move.switchOver(1);
        move.switchOver(7);
        Due.answer("no trouble", move.troubledReaders(), 0);
        move.damage(59, 0);
        Due.answer("a broken cell", move.troubledReaders(), 2 + 128);
        move.setUp(0, false);
        Due.answer("old side down, and a broken cell", move.troubledReaders(), 255);
        move.damage(59, NONE);
        Due.answer("old side down", move.troubledReaders(), 255 - 2 - 128);
        move.setUp(0, true);
        move.setUp(1, false);
        Due.answer("new side down", move.troubledReaders(), 2 + 128);
        TableMove fresh = new TableMove();
        fresh.setUp(1, false);
        Due.answer("nobody reads the new table", fresh.troubledReaders(), 0);
    }

    private static void event() {
        TableMove move = new TableMove();
        Due.index("event(0, 0) of none", () -> move.event(0, 0));
        move.put(1, 1);
        move.remove(1);
        move.begin();
        move.copy(2);
        move.setUp(1, false);
        move.put(2, 2);
        move.put(2, 3);
        move.setUp(1, true);
        move.repair(1);
        move.check(0);
        move.damage(3, 5);
        move.check(0);
        Due.text("events", Moves.events(move), "0:1 0:1 8:1 2:0 2:1 0:2 1:2 0:2 3:2 4:0 5:0 1:3");
        Due.index("event(-1, 0)", () -> move.event(-1, 0));
        Due.index("event(12, 9)", () -> move.event(12, 9));
        Due.argument("event(11, 2)", () -> move.event(11, 2));
        Due.argument("event(0, -1)", () -> move.event(0, -1));
        TableMove led = Moves.checked();
        led.switchOver(0);
        led.switchBack(0);
        Due.answer("event(28, 0)", led.event(28, 0), 6);
        Due.answer("event(29, 0)", led.event(29, 0), 7);
        TableMove filled = new TableMove();
        filled.begin();
        filled.setUp(1, false);
        filled.fill(5, 7, 1, 1);
        filled.clearRange(6, 9);
        Due.text("events of fill() and clearRange()", Moves.events(filled), "8:1 0:5 1:5 0:6 1:6 0:7 1:7 0:6 0:7");
    }

    private static void eventsThatAreKept() {
        TableMove move = new TableMove();
        move.fill(0, 29, 0, 0);
        Due.answer("30 events", move.count(10), 30);
        Due.answer("the earliest", move.event(0, 1), 0);
        move.put(50, 1);
        Due.answer("30 events", move.count(10), 30);
        Due.answer("the earliest that is kept", move.event(0, 1), 1);
        Due.answer("the latest", move.event(29, 1), 50);
        Due.index("event(30, 0)", () -> move.event(30, 0));
    }

    private static void since() {
        TableMove move = Moves.switched();
        move.put(1, 5);
        Due.answer("in the phase 1", move.since(0, 0), NONE);
        move.lead();
        Due.answer("none yet", move.since(0, 0), NONE);
        move.put(1, 7);
        move.remove(1);
        move.put(1, 9);
        move.damage(2, 3);
        move.put(2, 4);
        Due.text("since", Moves.since(move), "2=4<-3 1=9<-1 1=-1<7 1=7<5");
        Due.index("since(-1, 3)", () -> move.since(-1, 3));
        Due.argument("since(0, 3)", () -> move.since(0, 3));
        Due.argument("since(99, -1)", () -> move.since(99, -1));
        move.fill(10, 28, 0, 1);
        Due.answer("count(9)", move.count(9), 23);
        Due.answer("since(0, 0)", move.since(0, 0), 28);
        Due.answer("since(18, 0)", move.since(18, 0), 10);
        Due.answer("since(19, 0)", move.since(19, 0), 2);
        Due.answer("since(19, 2)", move.since(19, 2), TableMove.BROKEN);
        Due.answer("since(20, 0)", move.since(20, 0), NONE);
        Due.answer("since(MAX, 0)", move.since(Integer.MAX_VALUE, 0), NONE);
        move.goBack(false);
        Due.answer("gone back", move.since(0, 0), NONE);
        for (int chunk = 0; chunk < 15; chunk++) {
            move.check(chunk);
        }
        Due.answer("lead() again", move.lead(), 0);
        Due.answer("since the phase became 2 at last", move.since(0, 0), NONE);
        Due.answer("since the phase became 2 at last", move.count(9), 0);
        move.put(3, 3);
        move.finish();
        Due.answer("in the phase 3", move.since(0, 0), NONE);
        Due.index("since(-1, 0) in the phase 3", () -> move.since(-1, 0));
        Due.argument("since(0, 5) in the phase 3", () -> move.since(0, 5));
    }

    private static void account() {
        TableMove move = new TableMove();
        move.put(1, 1);
        move.remove(2);
        move.copy(1);
        move.begin();
        move.check(0);
        move.switchBack(0);
        move.copy(15);
        move.copy(1);
        move.repair(1);
        move.switchOver(0);
        int[] want = {3, 0, 1, 1, 0, 1, 1, 0, 1, 2};
        for (int what = 0; what < 10; what++) {
            Due.answer("account(" + what + ")", move.account(what), want[what]);
        }
        move.undo();
        Due.answer("undone acts count, too", move.account(0), 3);
        move.save(0);
        move.setUp(0, false);
        move.put(1, 1);
        Due.answer("account(1)", move.account(1), 1);
        move.restore(0);
        Due.answer("restore() leaves the accounts", move.account(1), 1);
        Due.argument("account(-1)", () -> move.account(-1));
        Due.argument("account(10)", () -> move.account(10));
    }
}
