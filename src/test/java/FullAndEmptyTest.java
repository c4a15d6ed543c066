import java.util.List;

/**
 * The text, the tables, the queue, the events, the kept writes, the changes, the output and the saved
 * states when they are empty, nearly full, full, and when one more comes. (Promises 1 to 3, 10, 15, 18,
 * 19, 40 to 42 and 48 to 51, and the parts TABLES, PHASES, ACTS, EVENTS and SCRIPTS of the document.)
 */
public final class FullAndEmptyTest {
    private static final int NONE = TableMove.NONE;
    private static final int SPACES = 0x20202020;

    public static void main(String[] args) {
        emptyText();
        fullText();
        fullTextStays();
        emptyTables();
        fullTables();
        emptyQueue();
        fullQueue();
        queueKeepsItsOrder();
        fullQueueIsBroughtBack();
        emptyEvents();
        fullEvents();
        eventsOfOneActBeyondAll();
        emptyKeptWrites();
        fullKeptWrites();
        fullKeptWritesAreBroughtBack();
        emptyChanges();
        fullChanges();
        changesInACircle();
        emptyOutput();
        fullOutput();
        savedStates();
        Due.end();
    }

    // ---- the text

    private static void emptyText() {
        TableMove move = new TableMove();
        Due.argument("truncateText(-1) of an empty text", () -> move.truncateText(-1));
        Due.argument("truncateText(1) of an empty text", () -> move.truncateText(1));
        Due.answer("truncateText(0) of an empty text", move.truncateText(0), 0);
        Due.answer("runScript() of an empty text", move.runScript(), 0);
        Due.answer("the first four bytes", move.appendText(0x6265673b), 4);
        Due.answer("truncateText(0)", move.truncateText(0), 0);
        Due.answer("the bytes that were cut are gone", move.runScript(), 0);
        Moves.type(move, "begin;");
        move.truncateText(5);
        move.appendText(0x203b2020);
        Due.answer("bytes come right behind the cut", move.runScript(), 1);
        Due.answer("no text in a new object", new TableMove().appendText(0), 4);
    }

    private static TableMove spaces(int length) {
        TableMove move = new TableMove();
        for (int i = 0; i < length; i += 4) {
            Due.answer("the length", move.appendText(SPACES), i + 4);
        }
        return move;
    }

    private static void fullText() {
        for (int length = 0; length <= 592; length += 4) {
            TableMove move = spaces(length);
            Due.answer("a text of " + length + " bytes", move.appendText(SPACES), length + 4);
        }
        Due.answer("600 bytes are not longer than 600", spaces(596).appendText(SPACES), 600);
        Due.state("604 bytes are", () -> spaces(600).appendText(SPACES));
        for (int cut = 597; cut < 600; cut++) {
            TableMove move = spaces(600);
            int more = cut + 1;
            Due.answer("truncateText(" + cut + ")", move.truncateText(cut), cut);
            Due.state("a text of " + cut + " bytes", () -> move.appendText(SPACES));
            Due.answer("it is not longer then", move.truncateText(cut), cut);
            Due.argument("it is not longer then", () -> move.truncateText(more));
            Due.answer("truncateText(596)", move.truncateText(596), 596);
            Due.answer("four bytes have room again", move.appendText(SPACES), 600);
        }
        TableMove run = spaces(600);
        Due.answer("600 spaces are a script", run.runScript(), 0);
        Due.answer("600 spaces are no error", run.errorCode(), 0);
        Due.answer("there is room again", run.appendText(SPACES), 4);
    }

    /** A text of 600 bytes with 30 commands. */
    private static String longText() {
        StringBuilder text = new StringBuilder();
        for (int i = 0; i < 30; i++) {
            text.append("put  ").append(10 + i).append("   00000").append(100 + i).append(" ;");
        }
        return text.toString();
    }

    private static void fullTextStays() {
        Due.answer("the long text", longText().length(), 600);
        TableMove move = new TableMove();
        Moves.type(move, longText());
        for (int bytes : new int[] {0, -1, SPACES, Integer.MIN_VALUE, Integer.MAX_VALUE}) {
            Due.state("appendText(" + bytes + ") to a full text", () -> move.appendText(bytes));
        }
        Due.answer("the text is as it was", move.runScript(), 30);
        for (int i = 0; i < 30; i++) {
            Due.answer("the text is as it was", move.stored(0, 10 + i), 100 + i);
        }
    }

    // ---- the tables

    private static void emptyTables() {
        for (TableMove move : List.of(new TableMove(), Moves.doubled(), Moves.after(), Moves.over())) {
            move.clearRange(0, 59);
            String when = "empty in the phase " + move.count(0);
            Due.answer(when + ": remove(0)", move.remove(0), 8);
            Due.answer(when + ": clearRange(0, 59)", move.clearRange(0, 59), 8);
            for (int side = 0; side < 2; side++) {
                Due.answer(when + ": rows", move.count(3 + side), 0);
                Due.answer(when + ": the sum of all values", move.total(side, 0), 0);
                Due.answer(when + ": the least value", move.total(side, 1), NONE);
                Due.answer(when + ": the greatest value", move.total(side, 2), NONE);
                Due.answer(when + ": broken cells", move.total(side, 3), 0);
                Due.real(when + ": mean", move.mean(side), -1.0);
                Due.answer(when + ": lookup 0", move.lookup(side, 0), NONE);
                Due.answer(when + ": lookup 999", move.lookup(side, 999), NONE);
                Due.answer(when + ": stored", move.stored(side, 59), NONE);
                Due.answer(when + ": the sum of a chunk", move.chunk(14, 2 + side), 0);
            }
            Due.real(when + ": agreement", move.agreement(), 1.0);
            Due.answer(when + ": readSum", move.readSum(0, 0, 59), 0);
            Due.answer(when + ": read", move.read(7, 0), NONE);
            Due.answer(when + ": brokenPromise", move.brokenPromise(), NONE);
            Due.answer(when + ": differing", move.differing(0), NONE);
            Due.answer(when + ": troubledReaders", move.troubledReaders(), 0);
        }
    }

    private static void fullTables() {
        TableMove move = new TableMove();
        move.setForm(1, 999);
        move.fill(0, 59, 999, 0);
        move.begin();
        move.advance(38);
        for (int side = 0; side < 2; side++) {
            Due.answer("60 rows", move.count(3 + side), 60);
            Due.answer("the sum of 60 times 999", move.total(side, 0), 59940);
            Due.answer("the least value", move.total(side, 1), 999);
            Due.answer("the greatest value", move.total(side, 2), 999);
            Due.real("mean", move.mean(side), 999.0);
            Due.answer("the first of equals", move.lookup(side, 999), 0);
            Due.answer("the greatest sum of a chunk", move.chunk(14, 2 + side), (57 + 58 + 59 + 60) * 1000);
        }
        Due.real("all agree", move.agreement(), 1.0);
        Due.answer("readSum", move.readSum(7, 0, 59), 59940);
        for (int key = 56; key < 60; key++) {
            move.damage(key, 998);
        }
        Due.answer("a sum of broken cells", move.chunk(14, 3), (57 + 58 + 59 + 60) * 1001);
        for (int key = 56; key < 60; key++) {
            move.damage(key, NONE);
        }
        Due.answer("a sum of no rows", move.chunk(14, 3), 0);
        move.damage(59, 999);
        Due.answer("a row with the value 0 is in the sum", move.chunk(14, 3), 60);
    }

    // ---- the queue

    private static void emptyQueue() {
        TableMove move = Moves.copied();
        Due.answer("stale(0), none", move.stale(0), NONE);
        Due.answer("repair(1), none", move.repair(1), 9);
        Due.answer("count(7), none", move.count(7), 0);
        move.setUp(1, false);
        move.remove(0);
        move.setUp(1, true);
        Due.answer("stale(0) of one", move.stale(0), 0);
        Due.answer("stale(1) of one", move.stale(1), NONE);
        Due.answer("repair(15) of one", move.repair(15), 0);
        Due.answer("stale(0), none again", move.stale(0), NONE);
        Due.answer("one event for the one", move.eventsOf(3, 0), 1);
    }

    private static TableMove allStale() {
        TableMove move = Moves.copied();
        move.setUp(1, false);
        move.fill(30, 59, 7, 1);
        move.clearRange(0, 29);
        return move;
    }

    private static void fullQueue() {
        TableMove move = allStale();
        Due.answer("60 stale keys", move.count(7), 60);
        Due.answer("the first", move.stale(0), 30);
        Due.answer("the last", move.stale(59), 29);
        Due.answer("no more", move.stale(60), NONE);
        Due.answer("all of the chunk", move.chunk(0, 4), 4);
        move.put(5, 1);
        move.put(30, 1);
        Due.answer("keys that are stale already stay", move.count(7), 60);
        Due.answer("keys that are stale already stay", move.stale(0), 30);
        Due.answer("keys that are stale already stay", move.stale(35), 5);
        Due.answer("none becomes stale again", move.eventsOf(1, 1), 29);
        move.setUp(1, true);
        Due.answer("repair(15)", move.repair(15), 0);
        Due.answer("15 of 60", move.count(7), 45);
        Due.answer("15 of 60", move.stale(0), 45);
        Due.answer("15 events", move.eventsOf(3, 0), 15);
        Due.answer("15 events", move.eventsOf(3, 1), 44);
        move.repair(15);
        move.repair(15);
        move.repair(14);
        Due.answer("the last one", move.stale(0), 29);
        Due.answer("the last one", move.stale(1), NONE);
        Due.answer("repair(2) of one", move.repair(2), 0);
        Due.answer("none is left", move.count(7), 0);
        Due.answer("repair(1) of none", move.repair(1), 9);
        Due.answer("all rows are the same", move.differing(0), NONE);
    }

    private static void queueKeepsItsOrder() {
        TableMove first = allStale();
        first.setUp(1, true);
        first.put(30, 3);
        Due.answer("the first one leaves", first.stale(0), 31);
        Due.answer("the first one leaves", first.stale(58), 29);
        Due.answer("the first one leaves", first.stale(59), NONE);
        TableMove last = allStale();
        last.setUp(1, true);
        last.put(29, 3);
        Due.answer("the last one leaves", last.stale(0), 30);
        Due.answer("the last one leaves", last.stale(58), 28);
        Due.answer("the last one leaves", last.stale(59), NONE);
        TableMove between = allStale();
        between.setUp(1, true);
        between.put(0, 3);
        Due.answer("one leaves between others", between.stale(29), 59);
        Due.answer("one leaves between others", between.stale(30), 1);
        Due.answer("it left without an event", between.event(29, 0), 0);
        between.setUp(1, false);
        between.put(0, 4);
        Due.answer("and comes back behind all", between.stale(59), 0);
        TableMove copied = Moves.doubled();
        copied.setUp(1, false);
        copied.fill(2, 9, 7, 1);
        copied.setUp(1, true);
        copied.copy(1);
        Due.text("keys of a copied chunk leave", Moves.queue(copied), "4 5 6 7 8 9");
        Due.answer("they left without an event", copied.event(29, 0), 2);
        copied.copy(2);
        Due.answer("none is left", copied.count(7), 0);
    }

    private static void fullQueueIsBroughtBack() {
        TableMove move = allStale();
        move.save(0);
        for (int round = 0; round < 2; round++) {
            move.setUp(1, true);
            move.put(30, 3);
            move.setUp(1, false);
            move.put(30, 4);
            Due.answer("the first one comes behind all", move.stale(59), 30);
            Due.answer("the first one comes behind all", move.stale(0), 31);
            if (round == 0) {
                for (int i = 0; i < 4; i++) {
                    move.undo();
                }
            } else {
                move.restore(0);
            }
            Due.answer("60 stale keys again", move.count(7), 60);
            for (int index = 0; index < 60; index++) {
                Due.answer("the queue is brought back", move.stale(index), (30 + index) % 60);
            }
        }
    }

    // ---- the events

    private static void emptyEvents() {
        TableMove move = new TableMove();
        Due.answer("count(10)", move.count(10), 0);
        Due.index("event(0, 0)", () -> move.event(0, 0));
        Due.index("event(0, 2)", () -> move.event(0, 2));
        Due.index("event(-1, 0)", () -> move.event(-1, 0));
        for (int kind = 0; kind < 9; kind++) {
            Due.answer("eventsOf(" + kind + ", 0)", move.eventsOf(kind, 0), 0);
            Due.answer("eventsOf(" + kind + ", 1)", move.eventsOf(kind, 1), NONE);
        }
        move.setUp(0, false);
        move.setForm(0, 0);
        move.put(0, 0);
        move.lead();
        Due.answer("settings and refused acts have no event", move.count(10), 0);
    }

    private static void fullEvents() {
        TableMove move = new TableMove();
        for (int i = 0; i < 60; i++) {
            move.put(i, 0);
            int kept = Math.min(i + 1, 30);
            Due.answer("events that are kept", move.count(10), kept);
            Due.answer("the earliest", move.event(0, 1), i + 1 - kept);
            Due.answer("the latest", move.event(kept - 1, 1), i);
            Due.index("behind the latest", () -> move.event(kept, 0));
        }
        for (int i = 0; i < 30; i++) {
            Due.answer("the latest 30", move.event(i, 1), 30 + i);
        }
        TableMove begun = new TableMove();
        begun.begin();
        begun.fill(0, 28, 0, 0);
        Due.answer("the earliest of 30", begun.event(0, 0), 8);
        Due.answer("the earliest of 30", begun.eventsOf(8, 1), 1);
        begun.put(29, 0);
        Due.answer("31 came", begun.event(0, 0), 0);
        Due.answer("31 came", begun.eventsOf(8, 0), 0);
        Due.answer("31 came", begun.eventsOf(8, 1), NONE);
        Due.answer("all are of one kind", begun.eventsOf(0, 0), 30);
    }

    private static void eventsOfOneActBeyondAll() {
        TableMove move = new TableMove();
        move.begin();
        move.setUp(1, false);
        move.fill(0, 59, 1, 1);
        Due.answer("120 events came", move.count(10), 30);
        for (int i = 0; i < 15; i++) {
            Due.answer("the row", move.event(2 * i, 0), 0);
            Due.answer("the row", move.event(2 * i, 1), 45 + i);
            Due.answer("becomes stale", move.event(2 * i + 1, 0), 1);
            Due.answer("becomes stale", move.event(2 * i + 1, 1), 45 + i);
        }
        move.undo();
        Due.text("the events are undone", Moves.events(move), "8:1");
    }

    // ---- the kept writes

    private static void emptyKeptWrites() {
        TableMove move = Moves.after();
        for (int what = 0; what < 3; what++) {
            Due.answer("since(0, " + what + ")", move.since(0, what), NONE);
        }
        Due.answer("count(9)", move.count(9), 0);
        Due.index("since(-1, 0)", () -> move.since(-1, 0));
        Due.argument("since(0, 3)", () -> move.since(0, 3));
        move.remove(0);
        move.remove(0);
        Due.text("a refused write is no write", Moves.since(move), "0=-1<0");
        move.undo();
        Due.answer("undone", move.since(0, 0), NONE);
        Due.answer("undone", move.count(9), 0);
    }

    private static void fullKeptWrites() {
        TableMove move = Moves.after();
        for (int i = 1; i <= 43; i++) {
            move.put(i, 500 + i);
            int kept = Math.min(i, 20);
            Due.answer("all writes are counted", move.count(9), i);
            Due.answer("the latest", move.since(0, 0), i);
            Due.answer("the latest", move.since(0, 1), 500 + i);
            Due.answer("the latest", move.since(0, 2), 10 * i);
            Due.answer("the earliest that is kept", move.since(kept - 1, 0), i - kept + 1);
            Due.answer("no more", move.since(kept, 0), NONE);
            Due.answer("no more", move.since(20, 1), NONE);
            Due.answer("no more", move.since(Integer.MAX_VALUE, 2), NONE);
        }
        for (int i = 0; i < 20; i++) {
            Due.answer("the latest 20", move.since(i, 0), 43 - i);
        }
        TableMove filled = Moves.after();
        filled.fill(0, 59, 0, 1);
        Due.answer("60 writes of one act", filled.count(9), 60);
        Due.answer("60 writes of one act", filled.since(19, 0), 40);
        filled.clearRange(0, 59);
        Due.answer("120 writes", filled.count(9), 120);
        Due.answer("120 writes", filled.since(19, 1), NONE);
        Due.answer("120 writes", filled.since(19, 2), 40);
        filled.undo();
        Due.answer("undone", filled.count(9), 60);
        Due.answer("undone", filled.since(0, 1), 59);
    }

    private static void fullKeptWritesAreBroughtBack() {
        TableMove move = Moves.after();
        move.fill(0, 20, 500, 1);
        String since = Moves.since(move);
        Due.text("the earliest that is kept", since.substring(since.lastIndexOf(' ') + 1), "1=501<10");
        move.save(0);
        move.remove(40);
        Due.answer("the next one is the earliest", move.since(19, 0), 2);
        move.undo();
        Due.text("undo() brings all 20 back", Moves.since(move), since);
        move.fill(50, 59, 1, 1);
        move.restore(0);
        Due.text("restore() brings all 20 back", Moves.since(move), since);
    }

    // ---- the changes

    private static void emptyChanges() {
        TableMove move = new TableMove();
        Due.answer("count(11)", move.count(11), 0);
        Due.answer("undo(), none", move.undo(), NONE);
        Due.answer("undo(), none, again", move.undo(), NONE);
        move.remove(1);
        move.lead();
        move.save(0);
        Moves.run(move, "remove 1;");
        Due.answer("a refused act and save() are no changes", move.count(11), 0);
        Due.answer("undo(), none", move.undo(), NONE);
        move.setForm(0, 0);
        move.setUp(0, true);
        Due.answer("settings that change nothing are changes", move.count(11), 2);
        move.restore(0);
        Due.answer("restore() leaves none", move.count(11), 0);
        Due.answer("restore() leaves none", move.undo(), NONE);
    }

    private static void fullChanges() {
        for (int all = 1; all <= 21; all++) {
            TableMove move = new TableMove();
            for (int i = 1; i <= all; i++) {
                move.put(0, i);
            }
            int kept = Math.min(all, 10);
            Due.answer("the latest 10 of " + all, move.count(11), kept);
            for (int left = kept - 1; left >= 0; left--) {
                Due.answer("undo() of " + all, move.undo(), left);
                int due = all - kept + left;
                Due.answer("as it was ahead of the change", move.stored(0, 0), due == 0 ? NONE : due);
            }
            Due.answer("undo() of " + all + ", none is left", move.undo(), NONE);
            Due.answer("nothing changes then", move.stored(0, 0), all > 10 ? all - 10 : NONE);
        }
        TableMove many = new TableMove();
        many.begin();
        many.advance(15);
        Due.answer("advance() makes a change of each act", many.count(11), 10);
        many.undo();
        Due.answer("advance() makes a change of each act", many.count(5), 14);
        TableMove one = new TableMove();
        one.fill(0, 59, 0, 0);
        one.clearRange(0, 59);
        one.begin();
        one.copy(15);
        Due.answer("one change each", one.count(11), 4);
    }

    /** Some are undone, and others come, so often that every place for a change is used again and again. */
    private static void changesInACircle() {
        TableMove move = new TableMove();
        int[] values = new int[200];
        int length = 1;
        int changes = 0;
        values[0] = NONE;
        for (int round = 1; round <= 16; round++) {
            for (int i = 0; i < 1 + round % 7; i++) {
                move.put(0, round * 10 + i);
                values[length++] = round * 10 + i;
                changes = Math.min(changes + 1, 10);
            }
            for (int i = 0; i < round % 4 && changes > 0; i++) {
                length--;
                changes--;
                Due.answer("undo() in round " + round, move.undo(), changes);
                Due.answer("the value in round " + round, move.stored(0, 0), values[length - 1]);
            }
            Due.answer("the changes in round " + round, move.count(11), changes);
        }
        for (; changes > 0; changes--) {
            length--;
            Due.answer("undo() at last", move.undo(), changes - 1);
            Due.answer("the value at last", move.stored(0, 0), values[length - 1]);
        }
        Due.answer("none is left", move.undo(), NONE);
    }

    // ---- the output

    private static void emptyOutput() {
        TableMove move = new TableMove();
        for (int index : new int[] {Integer.MIN_VALUE, -1, 0, 1, Integer.MAX_VALUE}) {
            Due.answer("output(" + index + "), nothing written", move.output(index), NONE);
        }
        Due.index("write(15)", () -> move.write(15));
        Due.answer("nothing is written by a call that throws", move.output(0), NONE);
        Due.answer("the shortest output", move.write(0), 1);
        Due.answer("output(0)", move.output(0), '0');
        Due.answer("output(1)", move.output(1), NONE);
        Due.answer("output(-1)", move.output(-1), NONE);
    }

    private static void fullOutput() {
        TableMove move = new TableMove();
        move.setForm(1, 999);
        move.fill(56, 59, 999, 0);
        move.begin();
        move.advance(38);
        String longest = "14 copied checked 56:999/999 57:999/999 58:999/999 59:999/999";
        Due.answer("the length", move.write(14), longest.length());
        Due.text("the longest output", Moves.outputOf(move), longest);
        Due.answer("behind the last byte", move.output(longest.length()), NONE);
        Due.answer("far behind the last byte", move.output(Integer.MAX_VALUE), NONE);
        move.setUp(1, false);
        move.fill(56, 59, 100, 1);
        String stale = "14 copied 56:100/999! 57:101/999! 58:102/999! 59:103/999!";
        Due.text("all are stale", Moves.written(move, 14), stale);
        Due.answer("a shorter output replaces it", move.write(0), 16);
        Due.text("a shorter output replaces it", Moves.outputOf(move), "0 copied checked");
        Due.answer("nothing of the longer one is left", move.output(16), NONE);
    }

    // ---- the saved states

    private static void savedStates() {
        TableMove move = new TableMove();
        for (int slot = 0; slot < 2; slot++) {
            int at = slot;
            Due.answer("changed(" + slot + "), nothing saved", move.changed(slot), NONE);
            Due.state("restore(" + slot + "), nothing saved", () -> move.restore(at));
        }
        move.save(1);
        Due.answer("changed(0), nothing saved", move.changed(0), NONE);
        Due.state("restore(0), nothing saved", () -> move.restore(0));
        Due.answer("changed(1)", move.changed(1), 0);
        move.fill(0, 59, 0, 0);
        Due.answer("changed(1), all keys", move.changed(1), 60);
        move.save(0);
        move.restore(1);
        Due.answer("changed(0), all keys", move.changed(0), 60);
        Due.answer("changed(1)", move.changed(1), 0);
        move.save(0);
        Due.answer("an empty state replaces a full one", move.changed(0), 0);
    }
}
