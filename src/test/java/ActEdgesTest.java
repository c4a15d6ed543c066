/**
 * Promises 21 to 37 and the parts PHASES and READERS of the document at their edges: the first and the
 * last key, chunk and reader, one and all of them, counts that are greater than what there is, values
 * that wrap around, and what there is not any more in another phase.
 */
public final class ActEdgesTest {
    private static final int NONE = TableMove.NONE;

    public static void main(String[] args) {
        firstAndLastRow();
        writesWhereNothingFollows();
        copyAtItsEdges();
        repairAtItsEdges();
        checkAtItsEdges();
        staleUnchecksItsChunk();
        oneThatIsMissing();
        readersOfThePhases();
        whatPhasesForget();
        leadAtItsEdges();
        keptAside();
        goBackAtItsEdges();
        fillAtItsEdges();
        clearRangeAtItsEdges();
        whyAtItsEdges();
        nextAtItsEdges();
        advanceAtItsEdges();
        Due.end();
    }

    private static void checkAll(TableMove move) {
        for (int chunk = 0; chunk < 15; chunk++) {
            move.check(chunk);
        }
    }

    // ---- rows

    private static void firstAndLastRow() {
        for (int key : new int[] {0, 59}) {
            for (int value : new int[] {0, 999}) {
                for (TableMove move : new TableMove[] {new TableMove(), Moves.doubled(), Moves.after(), Moves.over()}) {
                    String when = "put(" + key + ", " + value + ") in the phase " + move.count(0);
                    boolean old = move.count(0) < 3;
                    boolean fresh = move.count(0) > 0;
                    int cell = move.count(0) == 0 ? NONE : value + 100;
                    Due.answer(when, move.put(key, value), 0);
                    Due.answer(when + ": old", move.stored(0, key), old ? value : NONE);
                    Due.answer(when + ": new", move.stored(1, key), fresh ? cell : NONE);
                    Due.answer(when + ": event 0", move.event(move.count(10) - 1, 0), 0);
                    Due.answer(when + ": event 0", move.event(move.count(10) - 1, 1), key);
                    Due.answer("remove after " + when, move.remove(key), 0);
                    Due.answer("remove after " + when + ": old", move.stored(0, key), NONE);
                    Due.answer("remove after " + when + ": new", move.stored(1, key), NONE);
                    Due.answer("remove after " + when + ": event 0", move.event(move.count(10) - 1, 0), 0);
                    Due.answer("remove again after " + when, move.remove(key), 8);
                    Due.answer("no row: 8 is counted", move.account(8), 1);
                }
            }
        }
    }

    private static void writesWhereNothingFollows() {
        TableMove before = new TableMove();
        before.setUp(1, false);
        before.fill(0, 59, 1, 0);
        Due.answer("nothing follows in the phase 0", before.count(7), 0);
        Due.answer("nothing follows in the phase 0", before.count(4), 0);
        Due.answer("no row becomes stale", before.eventsOf(1, 0), 0);
        TableMove over = Moves.over();
        over.setUp(0, false);
        over.fill(0, 59, 1, 0);
        Due.answer("nothing follows in the phase 3", over.count(7), 0);
        Due.answer("nothing follows in the phase 3", over.count(3), 0);
        Due.answer("the new one is written in its form", over.stored(1, 59), 101);
        Due.answer("no row becomes stale", over.eventsOf(1, 0), 0);
        Due.answer("no write since", over.count(9), 0);
        TableMove doubled = Moves.doubled();
        doubled.put(40, 1);
        Due.answer("writes go to both before a copy, too", doubled.stored(1, 40), 101);
        Due.answer("writes copy nothing else", doubled.stored(1, 41), NONE);
        Due.answer("writes copy no chunk", doubled.count(5), 0);
    }

    // ---- copy, repair, check

    private static void copyAtItsEdges() {
        for (int first = 1; first <= 15; first++) {
            TableMove move = Moves.doubled();
            Due.answer("copy(" + first + ")", move.copy(first), 0);
            Due.answer("so many are copied", move.count(5), first);
            Due.answer("the lowest are copied", move.chunk(first - 1, 0), 1);
            Due.answer("so many rows", move.count(4), 4 * first);
            Due.answer("the last row", move.stored(1, 4 * first - 1), 10 * (4 * first - 1) + 100);
            Due.answer("an event each", move.eventsOf(2, 0), first);
            Due.answer("the last event", move.eventsOf(2, 1), first - 1);
            if (first < 15) {
                Due.answer("the next one is not copied", move.chunk(first, 0), 0);
                Due.answer("the next row", move.stored(1, 4 * first), NONE);
                Due.answer("copy(15) of those that are left", move.copy(15), 0);
            }
            Due.answer("all are copied", move.count(5), 15);
            Due.answer("an event each", move.eventsOf(2, 0), 15);
            for (int more : new int[] {1, 15}) {
                Due.answer("copy(" + more + ") of none", move.copy(more), 9);
            }
            Due.answer("all rows", move.count(4), 60);
            Due.answer("it is counted", move.account(9), 2);
        }
        TableMove empty = new TableMove();
        empty.begin();
        empty.damage(0, 1);
        empty.damage(59, 1);
        Due.answer("copy(15) of an empty table", empty.copy(15), 0);
        Due.answer("rows that are missing are removed", empty.count(4), 0);
        TableMove over = Moves.doubled();
        over.damage(0, 9999);
        over.copy(1);
        Due.answer("a broken cell is written over", over.stored(1, 0), 100);
    }

    private static void repairAtItsEdges() {
        for (int keys = 1; keys <= 15; keys++) {
            for (int stale : new int[] {1, keys - 1, keys, keys + 1}) {
                TableMove move = Moves.copied();
                move.setUp(1, false);
                for (int i = 0; i < stale; i++) {
                    move.put(59 - i, i);
                }
                move.setUp(1, true);
                String when = "repair(" + keys + ") of " + stale;
                Due.answer(when, move.repair(keys), stale == 0 ? 9 : 0);
                int done = Math.min(keys, stale);
                Due.answer(when + ": stale keys", move.count(7), stale - done);
                Due.answer(when + ": the first one", move.stale(0), done < stale ? 59 - done : NONE);
                Due.answer(when + ": events", move.eventsOf(3, 0), done);
                Due.answer(when + ": the latest event", move.eventsOf(3, 1), done == 0 ? NONE : 60 - done);
                for (int i = 0; i < stale; i++) {
                    Due.answer(when + ": row " + i, move.stored(1, 59 - i), i < done ? 100 + i : 690 - 10 * i);
                }
                Due.answer(when + ": one act", move.account(stale == 0 ? 9 : 0), stale == 0 ? 1 : 4 + stale);
            }
        }
    }

    private static void checkAtItsEdges() {
        for (int chunk = 0; chunk < 15; chunk++) {
            TableMove move = Moves.copied();
            Due.answer("check(" + chunk + ")", move.check(chunk), 0);
            for (int other = 0; other < 15; other++) {
                Due.answer("only " + chunk + " is checked", move.chunk(other, 1), other == chunk ? 1 : 0);
            }
            Due.answer("event 4", move.eventsOf(4, 1), chunk);
            Due.answer("check() of a checked one", move.check(chunk), 0);
            Due.answer("it is checked still", move.chunk(chunk, 1), 1);
            Due.answer("event 4 again", move.eventsOf(4, 0), 2);
            for (int key = 4 * chunk + 3; key >= 4 * chunk; key--) {
                move.damage(key, 10 * key + 101);
            }
            Due.answer("damage() leaves it checked", move.chunk(chunk, 1), 1);
            Due.answer("check() that finds a difference", move.check(chunk), 0);
            Due.answer("it is not checked", move.chunk(chunk, 1), 0);
            Due.answer("the lowest key is stale", move.stale(0), 4 * chunk);
            Due.answer("no other key is stale", move.stale(1), NONE);
            Due.answer("the event 5, then the event 1", move.event(28, 0) * 10 + move.event(29, 0), 51);
            Due.answer("the event 5, then the event 1", move.event(28, 1), chunk);
            Due.answer("the event 5, then the event 1", move.event(29, 1), 4 * chunk);
            Due.answer("check() again", move.check(chunk), 4);
            move.repair(1);
            Due.answer("repair() checks nothing", move.chunk(chunk, 1), 0);
            Due.answer("check() again", move.check(chunk), 0);
            Due.answer("the next lowest key", move.stale(0), 4 * chunk + 1);
        }
    }

    private static void staleUnchecksItsChunk() {
        for (int key = 0; key < 60; key++) {
            TableMove move = Moves.checked();
            move.setUp(1, false);
            move.put(key, 1);
            for (int chunk = 0; chunk < 15; chunk++) {
                Due.answer("key " + key + " unchecks its chunk", move.chunk(chunk, 1), chunk == key / 4 ? 0 : 1);
                Due.answer("stale keys of the chunk", move.chunk(chunk, 4), chunk == key / 4 ? 1 : 0);
            }
            move.put(key, 2);
            Due.answer("it is stale already", move.count(7), 1);
            Due.answer("it is stale already", move.event(29, 0), 0);
            Due.answer("it is stale already", move.eventsOf(1, 0), 1);
            move.setUp(1, true);
            move.put(key, 3);
            Due.answer("it leaves the queue", move.count(7), 0);
            Due.answer("without an event", move.event(29, 0), 0);
            Due.answer("its chunk is not checked by that", move.chunk(key / 4, 1), 0);
            Due.answer("its row is the same", move.stored(1, key), 103);
        }
        TableMove doubled = Moves.checked();
        doubled.fill(0, 59, 0, 1);
        Due.answer("rows that are written in both stay checked", doubled.count(6), 15);
    }

    // ---- the ends of all chunks, keys and readers

    private static void oneThatIsMissing() {
        for (int missing = 0; missing < 15; missing++) {
            TableMove move = Moves.checked();
            move.setUp(1, false);
            move.put(4 * missing, 1);
            move.setUp(1, true);
            move.repair(1);
            Due.answer("chunk " + missing + " is not checked", move.switchOver(0), 6);
            Due.answer("chunk " + missing + " comes next", move.next(0) * 100 + move.next(1), 300 + missing);
            move.check(missing);
            Due.answer("all are checked", move.switchOver(0), 0);
            TableMove led = Moves.switched();
            led.damage(4 * missing + 3, NONE);
            Due.answer("chunk " + missing + " differs", led.lead(), 6);
            led.damage(4 * missing + 3, 10 * (4 * missing + 3) + 100);
            Due.answer("it does not differ", led.lead(), 0);
        }
        for (int missing = 0; missing < 8; missing++) {
            TableMove move = Moves.switched();
            move.switchBack(missing);
            Due.answer("reader " + missing + " is not switched", move.lead(), 7);
            Due.answer("reader " + missing + " comes next", move.next(0) * 100 + move.next(1), 400 + missing);
            Due.answer("reader " + missing, move.isSwitched(missing), false);
            Due.answer("event 7", move.eventsOf(7, 1), missing);
            Due.answer("stop() with 7 readers", move.stop(), 7);
            move.switchOver(missing);
            Due.answer("event 6", move.eventsOf(6, 1), missing);
            Due.answer("all are switched", move.lead(), 0);
            move.switchBack(missing);
            Due.answer("reader " + missing + " is not switched", move.finish(), 7);
            Due.answer("finish() comes next", move.next(0) * 100 + move.next(1), 1000);
            TableMove one = Moves.checked();
            one.switchOver(missing);
            Due.answer("one reader is switched", one.stop(), 7);
            Due.answer("one reader is switched", one.count(8), 1);
            for (int reader = 0; reader < 8; reader++) {
                Due.answer("only reader " + missing, one.isSwitched(reader), reader == missing);
            }
            one.damage(0, 9999);
            Due.answer("only reader " + missing + " is troubled", one.troubledReaders(), 1 << missing);
        }
        for (int stale = 0; stale < 60; stale++) {
            TableMove move = Moves.after();
            move.setUp(0, false);
            move.put(stale, 1);
            move.setUp(0, true);
            Due.answer("key " + stale + " is stale", move.goBack(true), 4);
            Due.answer("key " + stale + " is stale", move.switchBack(7), 4);
            Due.answer("key " + stale + " is stale", move.check(stale / 4), 4);
            Due.answer("key " + stale + " is stale", move.check((stale / 4 + 1) % 15), 0);
            Due.answer("key " + stale + " does not matter", move.why(8, 0), 0);
            Due.answer("key " + stale + " does not matter", move.finish(), 0);
        }
    }

    private static void readersOfThePhases() {
        TableMove move = Moves.doubled();
        Due.answer("none in the phase 1 at first", move.count(8), 0);
        TableMove over = Moves.over();
        for (int reader = 0; reader < 8; reader++) {
            Due.answer("none in the phase 0", new TableMove().isSwitched(reader), false);
            Due.answer("all in the phase 3", over.isSwitched(reader), true);
            Due.answer("no way back in the phase 3", over.switchBack(reader), 2);
            Due.answer("no way over in the phase 0", new TableMove().switchOver(reader), 2);
            Due.answer("all read the new table", over.read(reader, 59), 590);
        }
        over.setUp(0, false);
        Due.answer("the old side troubles nobody", over.troubledReaders(), 0);
        over.setUp(1, false);
        Due.answer("the new side troubles all", over.troubledReaders(), 255);
        TableMove before = new TableMove();
        before.setUp(0, false);
        Due.answer("the old side troubles all", before.troubledReaders(), 255);
    }

    // ---- phases

    private static void nothingIsTold(String when, TableMove move) {
        Due.answer(when + ": no chunk is copied", move.count(5), 0);
        Due.answer(when + ": no chunk is checked", move.count(6), 0);
        Due.answer(when + ": no key is stale", move.count(7), 0);
        Due.answer(when + ": no key is stale", move.stale(0), NONE);
        Due.answer(when + ": no write since", move.count(9), 0);
        Due.answer(when + ": no write since", move.since(0, 0), NONE);
        Due.answer(when + ": brokenPromise()", move.brokenPromise(), NONE);
        Due.answer(when + ": differing()", move.differing(0), NONE);
        for (int chunk = 0; chunk < 15; chunk++) {
            for (int what : new int[] {0, 1, 4}) {
                Due.answer(when + ": chunk(" + chunk + ", " + what + ")", move.chunk(chunk, what), 0);
            }
            Due.answer(when + ": chunk(" + chunk + ", 5)", move.chunk(chunk, 5), NONE);
        }
    }

    private static void whatPhasesForget() {
        TableMove rows = new TableMove();
        rows.fill(0, 59, 0, 10);
        nothingIsTold("in the phase 0", rows);
        TableMove stopped = Moves.checked();
        stopped.setUp(1, false);
        stopped.put(0, 1);
        stopped.put(59, 1);
        stopped.stop();
        nothingIsTold("after stop()", stopped);
        Due.answer("no event of the keys", stopped.event(29, 0), 8);
        stopped.setUp(1, true);
        stopped.begin();
        Due.answer("the phase 1 from 0: none is copied", stopped.count(5), 0);
        Due.answer("the phase 1 from 0: none is checked", stopped.count(6), 0);
        Due.answer("the phase 1 from 0: none is stale", stopped.count(7), 0);
        Due.answer("the phase 1 from 0: the new table is empty", stopped.count(4), 0);
        TableMove finished = Moves.after();
        finished.damage(9, 9);
        finished.setUp(0, false);
        finished.put(0, 1);
        finished.put(59, 1);
        finished.finish();
        nothingIsTold("after finish()", finished);
        Due.answer("no event of the keys", finished.event(29, 0), 8);
        Due.answer("the old table is empty", finished.count(3), 0);
        Due.answer("the new table stays", finished.count(4), 60);
        Due.answer("a broken cell stays", finished.read(0, 9), TableMove.BROKEN);
        Due.answer("a broken cell stays", finished.stored(1, 9), 9);
    }

    private static void leadAtItsEdges() {
        TableMove move = Moves.switched();
        move.put(0, 5);
        move.put(59, 6);
        Due.answer("lead()", move.lead(), 0);
        Due.answer("all stay copied", move.count(5), 15);
        Due.answer("all stay checked", move.count(6), 15);
        Due.answer("all stay switched", move.count(8), 8);
        Due.answer("no write since", move.count(9), 0);
        Due.answer("both stay", move.stored(0, 59) * 1000 + move.stored(1, 59), 6106);
        Due.answer("the new one leads", move.count(14), 1);
        Due.answer("lead() in the phase 3", Moves.over().lead(), 2);
        TableMove empty = new TableMove();
        empty.begin();
        Due.answer("empty tables can be moved", empty.advance(60), 15 + 15 + 8 + 1 + 1);
        Due.answer("empty tables can be moved", empty.count(0), 3);
    }

    private static void keptAside() {
        TableMove move = Moves.switched();
        move.lead();
        move.fill(0, 59, 0, 0);
        move.goBack(true);
        Due.answer("with: both stay", move.stored(0, 59) * 1000 + move.stored(1, 59), 100);
        checkAll(move);
        move.lead();
        move.clearRange(0, 59);
        Due.answer("empty", move.count(3) + move.count(4), 0);
        move.goBack(false);
        Due.answer("without: as the latest lead() kept them", move.stored(0, 59) * 1000 + move.stored(1, 59), 100);
        Due.answer("without: as the latest lead() kept them", move.count(3) * 100 + move.count(4), 6060);
        TableMove differs = Moves.switched();
        differs.put(0, 2);
        differs.put(1, 1);
        differs.damage(0, 100);
        differs.damage(1, 102);
        Due.answer("rows that differ, the same sums", differs.lead(), 0);
        differs.put(0, 50);
        differs.put(1, 50);
        differs.damage(2, NONE);
        differs.goBack(false);
        Due.answer("both as they were", differs.stored(0, 0) * 1000 + differs.stored(1, 0), 2100);
        Due.answer("both as they were", differs.stored(0, 1) * 1000 + differs.stored(1, 1), 1102);
        Due.answer("damage() is gone, too", differs.stored(1, 2), 120);
    }

    private static void goBackAtItsEdges() {
        for (int with = 0; with < 2; with++) {
            TableMove move = Moves.after();
            move.switchBack(0);
            move.switchBack(7);
            Due.answer("goBack(" + with + ")", move.goBack(with == 1), 0);
            Due.answer("all stay copied", move.count(5), 15);
            Due.answer("none is checked", move.count(6), 0);
            Due.answer("readers stay", move.count(8), 6);
            Due.answer("readers stay", move.isSwitched(0) || move.isSwitched(7), false);
            Due.answer("the old one leads", move.count(14), 0);
            Due.answer("no write since", move.count(9), 0);
            Due.answer("check() comes next", move.next(0), 3);
            Due.answer("event 8", move.event(29, 0) * 10 + move.event(29, 1), 81);
        }
        TableMove stale = Moves.after();
        stale.setUp(0, false);
        stale.fill(0, 59, 0, 1);
        stale.setUp(0, true);
        int events = stale.eventsOf(3, 0);
        Due.answer("60 stale keys", stale.count(7), 60);
        Due.answer("goBack(false) with stale keys", stale.goBack(false), 0);
        Due.answer("no key is stale", stale.count(7), 0);
        Due.answer("they leave without an event", stale.eventsOf(3, 0), events);
        Due.answer("no row differs", stale.differing(0), NONE);
        Due.answer("written rows stay counted", stale.written(59), 2);
    }

    // ---- ranges of rows

    private static void fillAtItsEdges() {
        int[][] fills = {{0, 59, 0, 0}, {0, 59, 0, 999}, {0, 59, 999, 0}, {0, 59, 999, 999}, {0, 59, 0, 1}, {0, 59, 941, 1},
            {0, 59, 940, 1}, {0, 0, 999, 999}, {59, 59, 999, 999}, {0, 1, 999, 1}, {58, 59, 1, 998}, {58, 59, 1, 999},
            {10, 49, 500, 500}, {30, 30, 0, 999}};
        for (int[] fill : fills) {
            TableMove move = new TableMove();
            String when = "fill(" + fill[0] + ", " + fill[1] + ", " + fill[2] + ", " + fill[3] + ")";
            Due.answer(when, move.fill(fill[0], fill[1], fill[2], fill[3]), 0);
            int value = fill[2];
            for (int key = 0; key < 60; key++) {
                boolean inside = key >= fill[0] && key <= fill[1];
                Due.answer(when + ": row " + key, move.stored(0, key), inside ? value : NONE);
                Due.answer(when + ": written(" + key + ")", move.written(key), inside ? 1 : 0);
                for (int step = 0; inside && step < fill[3]; step++) {
                    value = value == 999 ? 0 : value + 1;
                }
            }
            Due.answer(when + ": rows", move.count(3), fill[1] - fill[0] + 1);
            Due.answer(when + ": one act", move.account(0), 1);
            Due.answer(when + ": one change", move.count(11), 1);
            Due.answer(when + ": undo()", move.undo(), 0);
            Due.answer(when + ": all is undone", move.count(3) + move.count(10), 0);
        }
    }

    private static void clearRangeAtItsEdges() {
        int[][] ranges = {{0, 59}, {0, 0}, {59, 59}, {0, 3}, {4, 7}, {30, 31}, {1, 58}};
        for (int[] range : ranges) {
            TableMove move = Moves.doubled();
            move.copy(15);
            String when = "clearRange(" + range[0] + ", " + range[1] + ")";
            Due.answer(when, move.clearRange(range[0], range[1]), 0);
            for (int key = 0; key < 60; key++) {
                boolean inside = key >= range[0] && key <= range[1];
                Due.answer(when + ": old row " + key, move.stored(0, key), inside ? NONE : 10 * key);
                Due.answer(when + ": new row " + key, move.stored(1, key), inside ? NONE : 10 * key + 100);
                Due.answer(when + ": written(" + key + ")", move.written(key), inside ? 2 : 1);
            }
            Due.answer(when + ": one act", move.account(0), 4);
            Due.answer(when + " again", move.clearRange(range[0], range[1]), 8);
            Due.answer(when + " again is counted", move.account(8), 1);
        }
        TableMove one = new TableMove();
        one.put(59, 1);
        Due.answer("no row ahead of it", one.clearRange(0, 58), 8);
        Due.answer("it is the last one", one.clearRange(58, 59), 0);
        one.put(0, 1);
        Due.answer("no row behind it", one.clearRange(1, 59), 8);
        Due.answer("it is the first one", one.clearRange(0, 1), 0);
        Due.answer("the rows that there are count", one.written(58) + one.written(1), 0);
    }

    // ---- what would be, and what comes next

    private static void whyAtItsEdges() {
        TableMove move = Moves.doubled();
        move.copy(1);
        Due.answer("the first chunk is copied", move.why(3, 0), 0);
        Due.answer("the last chunk is not", move.why(3, 14), 3);
        move.copy(14);
        Due.answer("the last chunk is copied", move.why(3, 14), 0);
        Due.answer("copy(1)", move.why(1, 14), 9);
        checkAll(move);
        move.switchOver(0);
        Due.answer("the first reader is switched", move.why(4, 0) * 10 + move.why(5, 0), 50);
        Due.answer("the last reader is not", move.why(4, 7) * 10 + move.why(5, 7), 5);
        move.switchOver(7);
        Due.answer("the last reader is switched", move.why(4, 7) * 10 + move.why(5, 7), 50);
        Due.answer("a reader is switched", move.why(9, 0), 7);
        Due.answer("nothing is counted", move.account(7) + move.account(5) + move.account(9) + move.account(3), 0);
        Due.answer("nothing is done", move.count(8), 2);
    }

    private static void nextAtItsEdges() {
        TableMove move = new TableMove();
        move.setUp(0, false);
        move.setUp(1, false);
        Due.answer("begin(), though it would be refused", move.next(0), 0);
        TableMove doubled = Moves.doubled();
        doubled.setUp(1, false);
        Due.answer("copy(), though it would be refused", doubled.next(0), 1);
        doubled.put(59, 1);
        Due.answer("repair() comes ahead of copy()", doubled.next(0), 2);
        TableMove switched = Moves.switched();
        switched.damage(0, 0);
        Due.answer("lead(), though it would be refused", switched.next(0) * 10 + switched.why(6, 0), 66);
        switched.setUp(1, false);
        switched.put(59, 1);
        Due.answer("repair() comes ahead of check()", switched.next(0), 2);
        TableMove after = Moves.after();
        after.setUp(1, false);
        Due.answer("finish(), though it would be refused", after.next(0) * 10 + after.why(10, 0), 101);
        after.setUp(1, true);
        after.goBack(true);
        Due.answer("check() comes ahead of lead()", after.next(0), 3);
        Due.answer("none in the phase 3", Moves.over().next(0), NONE);
        Due.answer("no number in the phase 3", Moves.over().next(1), NONE);
    }

    private static void advanceAtItsEdges() {
        TableMove stale = Moves.after();
        stale.setUp(0, false);
        stale.fill(0, 59, 0, 1);
        stale.setUp(0, true);
        stale.save(0);
        Due.answer("60 acts at most", stale.advance(60), 60);
        Due.answer("finish() is still to come", stale.count(0) * 100 + stale.next(0), 210);
        Due.answer("one more", stale.advance(60), 1);
        Due.answer("none comes next", stale.advance(60), 0);
        Due.answer("none comes next", stale.advance(1), 0);
        stale.restore(0);
        Due.answer("59 acts at most", stale.advance(59), 59);
        Due.answer("the last key", stale.stale(0), 59);
        Due.answer("a change each", stale.count(11), 10);
        Due.answer("the two that are left", stale.advance(3), 2);
        Due.answer("nothing was refused", stale.account(1) + stale.account(2) + stale.account(9), 0);
        for (int most = 1; most <= 60; most++) {
            TableMove move = new TableMove();
            int due = Math.min(most, 1 + 15 + 15 + 8 + 1 + 1);
            Due.answer("advance(" + most + ")", move.advance(most), due);
            Due.answer("advance(" + most + ") does so many acts", move.account(0), due);
            Due.answer("advance(" + most + ") makes so many changes", move.count(11), Math.min(due, 10));
            Due.answer("advance(" + most + ") copies", move.count(0) == 3 ? 15 : move.count(5), Math.min(most - 1, 15));
        }
        TableMove refused = new TableMove();
        refused.setUp(1, false);
        Due.answer("refused at once", refused.advance(60), 0);
        Due.answer("one refusal", refused.account(1), 1);
        Due.answer("no change", refused.count(11), 1);
    }
}
