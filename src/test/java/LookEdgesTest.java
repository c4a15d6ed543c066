/**
 * Promises 10 to 19 and 38 to 48 at their edges: the first and the last key, chunk, reader and event,
 * one key and all of them, the phases in which nothing is told, and sides that are down.
 */
public final class LookEdgesTest {
    private static final int NONE = TableMove.NONE;
    private static final int DOWN = TableMove.DOWN;

    public static void main(String[] args) {
        countsAtTheirEdges();
        storedWhateverIsDown();
        readsOfSidesThatAreDown();
        readAtItsEdges();
        chunksHaveFourKeys();
        troubleAtItsEdges();
        promiseAtItsEdges();
        differingAtItsEdges();
        phasesInWhichNothingDiffers();
        lookupAtItsEdges();
        totalsAtTheirEdges();
        agreementAtItsEdges();
        readSumAtItsEdges();
        writtenAtItsEdges();
        changedAtItsEdges();
        eventKinds();
        outputsOfEveryChunk();
        looksChangeNothing();
        Due.end();
    }

    private static void countsAtTheirEdges() {
        TableMove[] moves = {new TableMove(), Moves.doubled(), Moves.after(), Moves.over()};
        int[] leads = {0, 0, 1, 1};
        for (int phase = 0; phase < 4; phase++) {
            TableMove move = moves[phase];
            Due.answer("the phase", move.count(0), phase);
            Due.answer("the side that leads in the phase " + phase, move.count(14), leads[phase]);
            move.put(0, 1);
            Due.answer("writes since the phase became 2", move.count(9), phase == 2 ? 1 : 0);
            for (int sides = 0; sides < 4; sides++) {
                move.setUp(0, sides % 2 == 1);
                move.setUp(1, sides / 2 == 1);
                Due.answer("the old table is up", move.count(12), sides % 2);
                Due.answer("the new table is up", move.count(13), sides / 2);
                Due.answer("the side that leads, whether up or down", move.count(14), leads[phase]);
            }
        }
        TableMove rows = new TableMove();
        for (int key = 0; key < 60; key++) {
            Due.answer("rows of the old table", rows.count(3), key);
            rows.put(key, 0);
            rows.put(key, 999);
        }
        Due.answer("all rows of the old table", rows.count(3), 60);
        Due.answer("no rows of the new table", rows.count(4), 0);
    }

    private static void storedWhateverIsDown() {
        for (TableMove move : new TableMove[] {Moves.copied(), Moves.after(), Moves.over()}) {
            int old = move.count(0) == 3 ? NONE : 590;
            move.setUp(0, false);
            move.setUp(1, false);
            Due.answer("stored(0, 59), down", move.stored(0, 59), old);
            Due.answer("stored(1, 59), down", move.stored(1, 59), 690);
            Due.answer("stored(1, 0), down", move.stored(1, 0), 100);
            Due.answer("rows, down", move.count(4), 60);
            Due.answer("sums, down", move.chunk(0, 3), 210);
            Due.answer("total, down", move.total(1, 0), 17700);
            Due.answer("lookup, down", move.lookup(1, 590), 59);
            Due.real("mean, down", move.mean(1), 295.0);
            Due.real("agreement, down", move.agreement(), old == NONE ? 0.0 : 1.0);
            Due.text("write, down", Moves.written(move, 14).replaceAll(".* 59:", ""), (old == NONE ? "-" : "590") + "/590");
        }
    }

    private static void readsOfSidesThatAreDown() {
        TableMove move = Moves.checked();
        move.switchOver(0);
        move.remove(5);
        move.damage(6, 0);
        for (int sides = 0; sides < 4; sides++) {
            boolean old = sides % 2 == 1;
            boolean fresh = sides / 2 == 1;
            move.setUp(0, old);
            move.setUp(1, fresh);
            String when = "old " + old + ", new " + fresh;
            Due.answer(when + ": read(0, 4)", move.read(0, 4), fresh ? 40 : DOWN);
            Due.answer(when + ": read(0, 5), no row", move.read(0, 5), fresh ? NONE : DOWN);
            Due.answer(when + ": read(0, 6), broken", move.read(0, 6), fresh ? TableMove.BROKEN : DOWN);
            Due.answer(when + ": read(7, 4)", move.read(7, 4), old ? 40 : DOWN);
            Due.answer(when + ": read(7, 5), no row", move.read(7, 5), old ? NONE : DOWN);
            Due.answer(when + ": read(7, 6)", move.read(7, 6), old ? 60 : DOWN);
            Due.answer(when + ": readSum(0, 5, 5), no row", move.readSum(0, 5, 5), fresh ? 0 : DOWN);
            Due.answer(when + ": readSum(0, 5, 6), broken", move.readSum(0, 5, 6), fresh ? TableMove.BROKEN : DOWN);
            Due.answer(when + ": readSum(7, 4, 6)", move.readSum(7, 4, 6), old ? 100 : DOWN);
            Due.answer(when + ": troubledReaders()", move.troubledReaders(), (old ? 0 : 254) + 1);
        }
    }

    private static void readAtItsEdges() {
        TableMove move = Moves.checked();
        move.switchOver(7);
        for (int reader = 0; reader < 8; reader++) {
            for (int key = 0; key < 60; key += 59) {
                Due.answer("read(" + reader + ", " + key + ")", move.read(reader, key), 10 * key);
                move.damage(key, 1099);
                Due.answer("read(" + reader + ", " + key + ")", move.read(reader, key), reader == 7 ? 999 : 10 * key);
                move.damage(key, 10 * key + 100);
            }
        }
        Due.answer("reading troubles nobody", move.troubledReaders(), 0);
    }

    /** Each key is in the sum of its own chunk, and in no other one. */
    private static void chunksHaveFourKeys() {
        for (int key = 0; key < 60; key++) {
            TableMove move = new TableMove();
            move.put(key, 999);
            move.begin();
            for (int chunk = 0; chunk < 15; chunk++) {
                boolean own = chunk == key / 4;
                Due.answer("key " + key + " in chunk " + chunk, move.chunk(chunk, 2), own ? (key + 1) * 1000 : 0);
                Due.answer("key " + key + " in chunk " + chunk, move.chunk(chunk, 3), 0);
                Due.answer("key " + key + " in chunk " + chunk, move.chunk(chunk, 5), own ? key : NONE);
            }
            move.copy(key / 4 + 1);
            Due.answer("key " + key + " is copied", move.chunk(key / 4, 3), (key + 1) * 1000);
            move.put(key, 0);
            Due.answer("a value 0 counts", move.chunk(key / 4, 2), key + 1);
            Due.answer("a value 0 counts", move.chunk(key / 4, 3), key + 1);
            move.remove(key);
            Due.answer("no row does not", move.chunk(key / 4, 2), 0);
            Due.answer("no row does not", move.chunk(key / 4, 3), 0);
        }
    }

    private static void troubleAtItsEdges() {
        TableMove move = Moves.checked();
        int switched = 0;
        for (int reader = 0; reader < 8; reader++) {
            move.switchOver(reader);
            switched += 1 << reader;
            move.damage(0, 99);
            Due.answer("the first key is broken", move.troubledReaders(), switched);
            move.damage(0, NONE);
            Due.answer("a row that is missing is no trouble", move.troubledReaders(), 0);
            move.damage(0, 100);
            move.damage(59, 1100);
            Due.answer("the last key is broken", move.troubledReaders(), switched);
            move.damage(59, 1099);
            Due.answer("another value is no trouble", move.troubledReaders(), 0);
            move.damage(59, 690);
            move.setUp(0, false);
            Due.answer("the old side is down", move.troubledReaders(), 255 - switched);
            move.setUp(0, true);
            move.setUp(1, false);
            Due.answer("the new side is down", move.troubledReaders(), switched);
            move.setUp(0, false);
            Due.answer("both are down", move.troubledReaders(), 255);
            move.setUp(0, true);
            move.setUp(1, true);
        }
    }

    private static void promiseAtItsEdges() {
        for (int key = 0; key < 60; key++) {
            TableMove move = Moves.doubled();
            if (key / 4 > 0) {
                move.copy(key / 4);
            }
            move.damage(key, 5);
            Due.answer("the chunk of " + key + " is not copied", move.brokenPromise(), NONE);
            move.copy(1);
            Due.answer("it is copied", move.brokenPromise(), NONE);
            move.damage(key, 10 * key + 101);
            Due.answer("its rows differ", move.brokenPromise(), key);
            move.check(key / 4);
            Due.answer("it is stale", move.brokenPromise(), NONE);
            move.repair(1);
            Due.answer("it is repaired", move.brokenPromise(), NONE);
        }
    }

    private static void differingAtItsEdges() {
        TableMove move = Moves.copied();
        for (int key = 59; key >= 0; key--) {
            move.damage(key, 10 * key + 101);
            Due.answer("differing(0)", move.differing(0), key);
            Due.answer("differing(" + (59 - key) + ")", move.differing(59 - key), 59);
            Due.answer("differing(" + (60 - key) + ")", move.differing(60 - key), NONE);
        }
        for (int index = 0; index < 60; index++) {
            Due.answer("differing(" + index + ") of all", move.differing(index), index);
        }
    }

    private static void phasesInWhichNothingDiffers() {
        TableMove before = new TableMove();
        before.fill(0, 59, 1, 1);
        TableMove over = Moves.over();
        over.damage(3, 0);
        over.put(59, 1);
        for (TableMove move : new TableMove[] {before, over}) {
            String when = "in the phase " + move.count(0);
            Due.answer(when + ": brokenPromise()", move.brokenPromise(), NONE);
            Due.answer(when + ": stale(0)", move.stale(0), NONE);
            Due.answer(when + ": since(0, 0)", move.since(0, 0), NONE);
            Due.answer(when + ": since(19, 2)", move.since(19, 2), NONE);
            for (int index : new int[] {0, 1, 59, 60, Integer.MAX_VALUE}) {
                Due.answer(when + ": differing(" + index + ")", move.differing(index), NONE);
            }
            for (int chunk = 0; chunk < 15; chunk++) {
                Due.answer(when + ": chunk(" + chunk + ", 5)", move.chunk(chunk, 5), NONE);
            }
            Due.real(when + ": agreement()", move.agreement(), 0.0);
        }
        Due.answer("sums in the phase 0", before.chunk(0, 2), 1 * 2 + 2 * 3 + 3 * 4 + 4 * 5);
        Due.answer("sums in the phase 3", over.chunk(0, 3), 1 + 22 + 63 + 4 * 1001);
    }

    private static void lookupAtItsEdges() {
        TableMove move = new TableMove();
        move.put(59, 0);
        Due.answer("the last key", move.lookup(0, 0), 59);
        move.put(58, 0);
        Due.answer("the lowest key", move.lookup(0, 0), 58);
        move.put(0, 0);
        Due.answer("the first key", move.lookup(0, 0), 0);
        Due.answer("the new table has none", move.lookup(1, 0), NONE);
        Due.answer("a value next to it", move.lookup(0, 1), NONE);
        move.put(0, 999);
        Due.answer("the greatest value", move.lookup(0, 999), 0);
        Due.answer("a value next to it", move.lookup(0, 998), NONE);
        TableMove formed = new TableMove();
        formed.setForm(3, 0);
        formed.put(4, 999);
        formed.put(7, 0);
        formed.begin();
        formed.copy(2);
        Due.answer("the value, not the cell", formed.lookup(1, 999), 4);
        Due.answer("the value, not the cell", formed.lookup(1, 0), 7);
    }

    private static void totalsAtTheirEdges() {
        TableMove move = new TableMove();
        move.put(59, 999);
        Due.answer("the least of one", move.total(0, 1), 999);
        Due.answer("the greatest of one", move.total(0, 2), 999);
        move.put(0, 0);
        Due.answer("the least of two", move.total(0, 1), 0);
        Due.answer("the greatest of two", move.total(0, 2), 999);
        Due.answer("the sum of two", move.total(0, 0), 999);
        Due.real("the mean of two", move.mean(0), 499.5);
        move.remove(59);
        Due.answer("the greatest may be 0", move.total(0, 2), 0);
        Due.real("the mean may be 0", move.mean(0), 0.0);
        Due.answer("the other side has none", move.total(1, 1), NONE);
        Due.real("the other side has none", move.mean(1), -1.0);
        TableMove broken = new TableMove();
        broken.setForm(2, 9);
        broken.fill(0, 59, 100, 1);
        broken.begin();
        broken.copy(15);
        for (int key = 0; key < 59; key++) {
            broken.damage(key, 9999);
        }
        Due.answer("all but one are broken", broken.total(1, 3), 59);
        Due.answer("the sum of one", broken.total(1, 0), 159);
        Due.answer("the least of one", broken.total(1, 1), 159);
        Due.answer("the greatest of one", broken.total(1, 2), 159);
        Due.real("the mean of one", broken.mean(1), 159.0);
        broken.damage(59, 1);
        Due.answer("all are broken", broken.total(1, 3), 60);
        Due.answer("all are broken", broken.total(1, 0), 0);
        Due.answer("all are broken", broken.total(1, 1), NONE);
        Due.answer("all are broken", broken.total(1, 2), NONE);
        Due.real("all are broken", broken.mean(1), -1.0);
        Due.answer("the old table has no broken cells", broken.total(0, 3), 0);
    }

    private static void agreementAtItsEdges() {
        TableMove move = new TableMove();
        move.fill(0, 59, 0, 1);
        move.begin();
        move.copy(15);
        for (int key = 0; key < 60; key++) {
            Due.real("the part of 60", move.agreement(), (float) (60 - key) / 60f);
            move.damage(key, key + 1);
        }
        Due.real("none agrees", move.agreement(), 0.0);
        move.clearRange(0, 59);
        Due.real("no key", move.agreement(), 1.0);
        move.damage(0, 0);
        Due.real("a row of the new table alone", move.agreement(), 0.0);
        move.put(59, 0);
        Due.real("one of two", move.agreement(), 0.5);
        move.put(58, 0);
        Due.real("two of three, in single precision", move.agreement(), 2f / 3f);
        Due.answer("not in double precision", (double) move.agreement() == 2.0 / 3.0, false);
    }

    private static void readSumAtItsEdges() {
        TableMove move = Moves.checked();
        for (int key = 0; key < 60; key++) {
            Due.answer("readSum(0, " + key + ", " + key + ")", move.readSum(0, key, key), 10 * key);
            Due.answer("readSum(7, 0, " + key + ")", move.readSum(7, 0, key), 5 * key * (key + 1));
            Due.answer("readSum(7, " + key + ", 59)", move.readSum(7, key, 59), 17700 - 5 * key * (key - 1));
        }
        Due.index("readSum(0, 59, 58)", () -> move.readSum(0, 59, 58));
        Due.index("readSum(0, 1, 0)", () -> move.readSum(0, 1, 0));
        move.clearRange(0, 59);
        Due.answer("the sum of no rows", move.readSum(0, 0, 59), 0);
    }

    private static void writtenAtItsEdges() {
        TableMove move = new TableMove();
        for (int i = 1; i <= 100; i++) {
            move.fill(0, 59, i, 0);
            Due.answer("written(0)", move.written(0), i);
            Due.answer("written(59)", move.written(59), i);
        }
        move.remove(0);
        move.remove(0);
        Due.answer("a removal counts, a refused one does not", move.written(0), 101);
        for (int i = 0; i < 10; i++) {
            move.undo();
        }
        Due.answer("undone writes do not count", move.written(0), 91);
        Due.answer("undone writes do not count", move.written(59), 91);
        move.begin();
        move.copy(15);
        move.damage(0, 5);
        move.check(0);
        move.repair(1);
        Due.answer("a copy, damage() and a repair are no writes", move.written(0), 91);
        move.advance(60);
        Due.answer("the end of the migration is no write", move.written(0), 91);
        move.put(0, 1);
        Due.answer("a write in the phase 3", move.written(0), 92);
    }

    private static void changedAtItsEdges() {
        TableMove move = Moves.copied();
        move.save(0);
        for (int key = 0; key < 60; key++) {
            Due.answer("changed(0)", move.changed(0), key);
            move.damage(key, key % 2 == 0 ? NONE : 9999);
        }
        Due.answer("all keys", move.changed(0), 60);
        move.clearRange(0, 59);
        Due.answer("a key counts once", move.changed(0), 60);
        move.fill(0, 59, 0, 10);
        Due.answer("the same again", move.changed(0), 0);
        move.setUp(0, false);
        move.check(0);
        Due.answer("only what is stored counts", move.changed(0), 0);
        TableMove old = new TableMove();
        old.put(0, 0);
        old.save(1);
        old.remove(0);
        Due.answer("no row is not the value 0", old.changed(1), 1);
        old.put(59, 0);
        Due.answer("the first and the last key", old.changed(1), 2);
        old.restore(1);
        Due.answer("restored", old.changed(1), 0);
    }

    /** Every kind with the number that it has, at the edges of the numbers. */
    private static void eventKinds() {
        TableMove move = Moves.doubled();
        move.setUp(1, false);
        move.put(59, 1);
        move.setUp(1, true);
        Due.text("0 and 1", Moves.events(move).replaceAll(".* (\\S+ \\S+)$", "$1"), "0:59 1:59");
        move.repair(1);
        Due.answer("3: the key", move.eventsOf(3, 1), 59);
        move.copy(15);
        Due.answer("2: the chunk", move.eventsOf(2, 1), 14);
        Due.answer("2: a chunk each", move.eventsOf(2, 0), 15);
        move.check(14);
        Due.answer("4: the chunk", move.eventsOf(4, 1), 14);
        move.damage(56, 0);
        move.check(14);
        Due.answer("5: the chunk", move.eventsOf(5, 1), 14);
        Due.answer("1: the key", move.eventsOf(1, 1), 56);
        move.repair(1);
        checkAll(move);
        move.switchOver(7);
        Due.answer("6: the reader", move.eventsOf(6, 1), 7);
        move.switchBack(7);
        Due.answer("7: the reader", move.eventsOf(7, 1), 7);
        Due.answer("7: one", move.eventsOf(7, 0), 1);
        move.advance(9);
        Due.answer("8: the new phase", move.eventsOf(8, 1), 2);
        Due.answer("the numbers are of the same kind", move.eventsOf(6, 0), 9);
        move.finish();
        Due.answer("8: the new phase", move.eventsOf(8, 1), 3);
        Due.answer("8: two are kept", move.eventsOf(8, 0), 2);
    }

    private static void checkAll(TableMove move) {
        for (int chunk = 0; chunk < 15; chunk++) {
            move.check(chunk);
        }
    }

    private static void outputsOfEveryChunk() {
        TableMove move = Moves.doubled();
        move.copy(10);
        move.check(0);
        move.check(9);
        for (int chunk = 0; chunk < 15; chunk++) {
            StringBuilder due = new StringBuilder("" + chunk);
            due.append(chunk < 10 ? " copied" : "").append(chunk == 0 || chunk == 9 ? " checked" : "");
            for (int key = 4 * chunk; key < 4 * chunk + 4; key++) {
                due.append(" ").append(key).append(":").append(10 * key).append("/");
                due.append(chunk < 10 ? "" + 10 * key : "-");
            }
            Due.answer("write(" + chunk + ")", move.write(chunk), due.length());
            Due.answer("the first byte", move.output(0), due.charAt(0));
            Due.answer("the last byte", move.output(due.length() - 1), due.charAt(due.length() - 1));
            Due.answer("behind the last byte", move.output(due.length()), NONE);
        }
        TableMove odd = new TableMove();
        odd.setForm(2, 9);
        odd.put(0, 0);
        odd.begin();
        odd.copy(1);
        odd.damage(1, 0);
        odd.damage(2, 9);
        odd.damage(3, 8);
        Due.text("the value, not the cell", Moves.written(odd, 0), "0 copied 0:0/0 1:-/0 2:-/1 3:-/?");
        odd.setUp(1, false);
        odd.put(2, 999);
        odd.put(5, 5);
        odd.remove(5);
        Due.text("a stale key", Moves.written(odd, 0), "0 copied 0:0/0 1:-/0 2:999/1! 3:-/?");
        Due.text("a stale key without a row", Moves.written(odd, 1), "1");
    }

    private static void looksChangeNothing() {
        for (Stories.Story story : Stories.all()) {
            TableMove move = story.made().get();
            String accounts = Seen.accounts(move);
            Seen.same("all looks of " + story.name(), Seen.all(Seen.then(story.made(), LookEdgesTest::look)),
                Seen.all(story.made()));
            look(move);
            Due.text("all looks of " + story.name() + ": accounts", Seen.accounts(move), accounts);
        }
    }

    /** Every method that only looks. */
    private static void look(TableMove move) {
        String[] looks = {"errorCode", "errorPosition", "count", "stored", "read", "isSwitched", "chunk", "stale",
            "brokenPromise", "troubledReaders", "since", "account", "why", "next", "differing", "lookup", "total", "mean",
            "agreement", "readSum", "written", "changed", "eventsOf", "output"};
        for (String name : looks) {
            Calls.answer(move, name, new int[] {0, 0, 0, 0});
            Calls.answer(move, name, new int[] {1, 1, 1, 0});
        }
    }
}
