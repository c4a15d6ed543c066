import java.util.function.Supplier;

/** Promises 21 to 34: the acts, each with its reasons in their order. */
public final class ActsTest {
    private static final int NONE = TableMove.NONE;

    public static void main(String[] args) {
        put();
        putBroken();
        remove();
        begin();
        copy();
        repair();
        repairBroken();
        check();
        switchOver();
        switchBack();
        lead();
        goBackWith();
        goBackWithout();
        stop();
        finish();
        fill();
        clearRange();
        refusedActsChangeNothing();
        Due.end();
    }

    private static void put() {
        TableMove move = new TableMove();
        Due.answer("put(0, 0)", move.put(0, 0), 0);
        Due.answer("put(59, 999)", move.put(59, 999), 0);
        Due.answer("stored(0, 59)", move.stored(0, 59), 999);
        Due.answer("stored(1, 59)", move.stored(1, 59), NONE);
        Due.index("put(-1, 1000)", () -> move.put(-1, 1000));
        Due.index("put(60, 0)", () -> move.put(60, 0));
        Due.argument("put(0, -1)", () -> move.put(0, -1));
        Due.argument("put(0, 1000)", () -> move.put(0, 1000));
        move.setUp(1, false);
        Due.answer("put() with the new side down", move.put(1, 1), 0);
        Due.answer("none is stale in the phase 0", move.count(7), 0);
        move.setUp(0, false);
        Due.answer("put() with the old side down", move.put(1, 2), 1);
        TableMove doubled = Moves.checked();
        doubled.put(8, 3);
        Due.answer("both are written", doubled.stored(0, 8), 3);
        Due.answer("both are written", doubled.stored(1, 8), 103);
        Due.answer("it stays checked", doubled.chunk(2, 1), 1);
        doubled.setUp(1, false);
        doubled.put(8, 4);
        Due.answer("the one that follows is down", doubled.stored(1, 8), 103);
        Due.answer("it is not checked any more", doubled.chunk(2, 1), 0);
        Due.answer("the others stay checked", doubled.count(6), 14);
        TableMove after = Moves.after();
        after.setUp(0, false);
        Due.answer("the old one follows", after.put(8, 4), 0);
        Due.answer("the old one follows", after.stored(0, 8), 80);
        Due.answer("the old one follows", after.stored(1, 8), 104);
        Due.answer("the old one follows", after.stale(0), 8);
        after.setUp(1, false);
        Due.answer("the new one leads", after.put(8, 5), 1);
        TableMove over = Moves.over();
        over.setUp(0, false);
        Due.answer("there is only the new one", over.put(8, 5), 0);
        Due.answer("there is only the new one", over.stored(0, 8), NONE);
        Due.answer("there is only the new one", over.count(7), 0);
        over.setUp(1, false);
        Due.answer("there is only the new one", over.put(8, 5), 1);
    }

    private static void putBroken() {
        TableMove after = Moves.after();
        after.damage(8, 0);
        after.put(8, 6);
        Due.answer("a broken cell is overwritten", after.stored(1, 8), 106);
        Due.answer("a broken cell is overwritten", after.stored(0, 8), 6);
        after.damage(9, 0);
        Due.answer("a broken row is a row", after.remove(9), 0);
        Due.answer("a broken row is a row", after.stored(0, 9), NONE);
    }

    private static void remove() {
        TableMove move = Moves.doubled();
        Due.answer("remove(5)", move.remove(5), 0);
        Due.answer("remove(5) again", move.remove(5), 8);
        Due.answer("stored(0, 5)", move.stored(0, 5), NONE);
        move.put(6, 6);
        move.remove(6);
        Due.answer("stored(1, 6)", move.stored(1, 6), NONE);
        move.damage(6, 100);
        Due.answer("the table that leads has no such row", move.remove(6), 8);
        move.setUp(0, false);
        Due.answer("1 comes ahead of 8", move.remove(5), 1);
        Due.index("remove(-1)", () -> move.remove(-1));
        Due.index("remove(60)", () -> move.remove(60));
        TableMove after = Moves.after();
        after.damage(4, NONE);
        Due.answer("the new one leads", after.remove(4), 8);
        after.setUp(0, false);
        Due.answer("remove(3)", after.remove(3), 0);
        Due.answer("remove(3) of a side that is down", after.stored(0, 3), 30);
        Due.answer("remove(3) of a side that is down", after.stale(0), 3);
    }

    private static void begin() {
        TableMove move = new TableMove();
        move.put(1, 1);
        move.setUp(0, false);
        Due.answer("begin() with the old side down", move.begin(), 1);
        move.setUp(0, true);
        move.setUp(1, false);
        Due.answer("begin() with the new side down", move.begin(), 1);
        move.setUp(1, true);
        Due.answer("begin()", move.begin(), 0);
        Due.text("events", Moves.events(move), "0:1 8:1");
        Due.answer("nothing is copied", move.count(5), 0);
        move.setUp(1, false);
        Due.answer("2 comes ahead of 1", move.begin(), 2);
        Due.answer("begin() in the phase 2", Moves.after().begin(), 2);
        Due.answer("begin() in the phase 3", Moves.over().begin(), 2);
        TableMove again = Moves.checked();
        again.setUp(1, false);
        again.put(1, 1);
        again.setUp(1, true);
        again.stop();
        again.begin();
        Due.answer("nothing is copied", again.count(5), 0);
        Due.answer("nothing is checked", again.count(6), 0);
        Due.answer("nothing is stale", again.count(7), 0);
        Due.answer("the new table is empty", again.count(4), 0);
    }

    private static void copy() {
        TableMove move = Moves.doubled();
        move.setUp(1, false);
        move.put(1, 11);
        move.remove(2);
        move.put(20, 12);
        Due.answer("copy() with the new side down", move.copy(1), 1);
        move.setUp(1, true);
        move.damage(2, 5);
        Due.answer("copy(2)", move.copy(2), 0);
        Due.answer("stored(1, 0)", move.stored(1, 0), 100);
        Due.answer("stored(1, 1)", move.stored(1, 1), 111);
        Due.answer("stored(1, 2)", move.stored(1, 2), NONE);
        Due.answer("stored(1, 7)", move.stored(1, 7), 170);
        Due.answer("stored(1, 8)", move.stored(1, 8), NONE);
        Due.text("copied keys leave the queue", Moves.queue(move), "20");
        Due.answer("events", move.event(28, 0) * 100 + move.event(28, 1), 200);
        Due.answer("events", move.event(29, 0) * 100 + move.event(29, 1), 201);
        Due.answer("copy(15)", move.copy(15), 0);
        Due.answer("count(5)", move.count(5), 15);
        Due.answer("copy(1), all copied", move.copy(1), 9);
        move.setUp(0, false);
        Due.answer("1 comes ahead of 9", move.copy(1), 1);
        TableMove before = new TableMove();
        before.setUp(0, false);
        Due.answer("2 comes ahead of 1", before.copy(1), 2);
        Due.answer("copy() in the phase 2", Moves.after().copy(1), 2);
        Due.argument("copy(0)", () -> move.copy(0));
        Due.argument("copy(16)", () -> move.copy(16));
        Due.argument("copy(-5)", () -> before.copy(-5));
    }

    private static void repair() {
        TableMove move = Moves.copied();
        Due.answer("repair(1), none stale", move.repair(1), 9);
        move.setUp(1, false);
        move.fill(50, 53, 1, 1);
        move.remove(3);
        Due.answer("repair(1), new side down", move.repair(1), 1);
        move.setUp(1, true);
        Due.answer("repair(2)", move.repair(2), 0);
        Due.text("the first two", Moves.queue(move), "52 53 3");
        Due.answer("stored(1, 51)", move.stored(1, 51), 102);
        Due.answer("stored(1, 52)", move.stored(1, 52), 620);
        Due.answer("event 3", move.event(29, 0), 3);
        Due.answer("event 3", move.event(29, 1), 51);
        Due.answer("event 3", move.event(28, 1), 50);
        Due.answer("repair(15)", move.repair(15), 0);
        Due.answer("stored(1, 3)", move.stored(1, 3), NONE);
        Due.answer("count(7)", move.count(7), 0);
        Due.answer("repaired chunks are not checked", move.count(6), 0);
        TableMove before = new TableMove();
        before.setUp(0, false);
        Due.answer("2 comes ahead of 1", before.repair(1), 2);
        Due.answer("repair() in the phase 3", Moves.over().repair(1), 2);
        Due.argument("repair(0)", () -> move.repair(0));
        Due.argument("repair(16)", () -> move.repair(16));
        TableMove after = Moves.after();
        after.setUp(0, false);
        after.put(1, 77);
        after.setUp(0, true);
        Due.answer("repair() in the phase 2", after.repair(1), 0);
        Due.answer("the old one follows", after.stored(0, 1), 77);
        Due.answer("repair() writes nothing", after.written(1), 2);
    }

    private static void repairBroken() {
        TableMove after = Moves.after();
        after.damage(1, 0);
        after.check(0);
        Due.answer("stale(0)", after.stale(0), 1);
        Due.answer("repair(1)", after.repair(1), 0);
        Due.answer("a broken cell counts 0", after.stored(0, 1), 0);
        Due.answer("it stays broken", after.stored(1, 1), 0);
        Due.answer("it still differs", after.brokenPromise(), 1);
        after.check(0);
        Due.answer("stale again", after.stale(0), 1);
    }

    private static void check() {
        TableMove move = Moves.doubled();
        move.copy(3);
        Due.answer("check(0)", move.check(0), 0);
        Due.answer("chunk(0, 1)", move.chunk(0, 1), 1);
        Due.answer("event 4", move.event(29, 0), 4);
        Due.answer("check(3), not copied", move.check(3), 3);
        move.damage(2, 50);
        move.damage(3, 50);
        Due.answer("check(0), differs", move.check(0), 0);
        Due.answer("chunk(0, 1)", move.chunk(0, 1), 0);
        Due.answer("event 5", move.event(28, 0), 5);
        Due.answer("event 1", move.event(29, 0), 1);
        Due.answer("event 1", move.event(29, 1), 2);
        Due.text("the lowest key is stale", Moves.queue(move), "2");
        Due.answer("check(0), stale", move.check(0), 4);
        Due.answer("check(1), others are stale", move.check(1), 0);
        move.setUp(0, false);
        Due.answer("1 comes ahead of 3", move.check(3), 1);
        Due.answer("1 comes ahead of 4", move.check(0), 1);
        move.setUp(0, true);
        move.setUp(1, false);
        move.put(12, 1);
        Due.answer("1 comes ahead of 3", move.check(3), 1);
        move.setUp(1, true);
        Due.answer("3 comes ahead of 4", move.check(3), 3);
        TableMove before = new TableMove();
        before.setUp(1, false);
        Due.answer("2 comes ahead of 1", before.check(0), 2);
        Due.answer("check() in the phase 3", Moves.over().check(0), 2);
        TableMove after = Moves.after();
        after.damage(5, NONE);
        Due.answer("check(1) in the phase 2", after.check(1), 0);
        Due.answer("stale(0)", after.stale(0), 5);
        Due.index("check(-1)", () -> move.check(-1));
        Due.index("check(15)", () -> move.check(15));
    }

    private static void switchOver() {
        TableMove move = Moves.doubled();
        Due.answer("not copied", move.switchOver(0), 3);
        move.copy(14);
        move.setUp(1, false);
        move.put(1, 5);
        Due.answer("1 comes ahead of 3", move.switchOver(0), 1);
        move.setUp(1, true);
        Due.answer("3 comes ahead of 4", move.switchOver(0), 3);
        move.copy(1);
        Due.answer("4 comes ahead of 6", move.switchOver(0), 4);
        move.repair(1);
        Due.answer("not checked", move.switchOver(0), 6);
        for (int chunk = 0; chunk < 15; chunk++) {
            move.check(chunk);
        }
        move.setUp(0, false);
        Due.answer("the old side does not matter", move.switchOver(0), 0);
        Due.answer("event 6", move.event(29, 0), 6);
        move.setUp(1, false);
        Due.answer("5 comes ahead of 1", move.switchOver(0), 5);
        Due.answer("new side down", move.switchOver(7), 1);
        Due.answer("count(8)", move.count(8), 1);
        Due.answer("in the phase 0", new TableMove().switchOver(0), 2);
        Due.answer("2 comes ahead of 5", Moves.over().switchOver(0), 2);
        Due.index("switchOver(-1)", () -> move.switchOver(-1));
        Due.index("switchOver(8)", () -> move.switchOver(8));
        TableMove after = Moves.after();
        after.switchBack(3);
        after.setUp(0, false);
        after.put(0, 1);
        Due.answer("a stale key of the old table does not matter", after.switchOver(3), 6);
        TableMove other = Moves.after();
        other.switchBack(3);
        Due.answer("in the phase 2", other.switchOver(3), 0);
    }

    private static void switchBack() {
        TableMove move = Moves.switched();
        move.setUp(1, false);
        move.put(0, 1);
        Due.answer("a stale key of the new table does not matter", move.switchBack(2), 0);
        Due.answer("event 7", move.event(29, 0), 7);
        Due.answer("event 7", move.event(29, 1), 2);
        Due.answer("not switched", move.switchBack(2), 5);
        move.setUp(0, false);
        Due.answer("5 comes ahead of 1", move.switchBack(2), 5);
        Due.answer("old side down", move.switchBack(1), 1);
        Due.answer("in the phase 0", new TableMove().switchBack(0), 2);
        Due.answer("in the phase 3", Moves.over().switchBack(0), 2);
        TableMove after = Moves.after();
        after.setUp(0, false);
        after.put(0, 1);
        Due.answer("1 comes ahead of 4", after.switchBack(0), 1);
        after.setUp(0, true);
        Due.answer("stale", after.switchBack(0), 4);
        after.repair(1);
        Due.answer("switchBack(0)", after.switchBack(0), 0);
        Due.index("switchBack(-1)", () -> move.switchBack(-1));
        Due.index("switchBack(8)", () -> move.switchBack(8));
    }

    private static void lead() {
        TableMove move = Moves.doubled();
        move.setUp(0, false);
        Due.answer("1 comes ahead of 3", move.lead(), 1);
        move.setUp(0, true);
        move.setUp(1, false);
        move.put(59, 1);
        move.setUp(1, true);
        Due.answer("3 comes ahead of 4", move.lead(), 3);
        move.copy(14);
        Due.answer("not copied", move.lead(), 3);
        move.copy(1);
        Due.answer("6 comes ahead of 7", move.lead(), 6);
        move.setUp(1, false);
        move.put(59, 2);
        move.setUp(1, true);
        Due.answer("4 comes ahead of 6", move.lead(), 4);
        TableMove checked = Moves.checked();
        Due.answer("not switched", checked.lead(), 7);
        TableMove switched = Moves.switched();
        switched.damage(59, 0);
        Due.answer("a checked chunk that differs", switched.lead(), 6);
        switched.damage(59, 690);
        switched.setUp(0, false);
        Due.answer("a side down", switched.lead(), 1);
        switched.setUp(0, true);
        Due.answer("lead()", switched.lead(), 0);
        Due.answer("the phase", switched.count(0), 2);
        Due.answer("all stay checked", switched.count(6), 15);
        Due.answer("event 8", switched.event(29, 0), 8);
        Due.answer("event 8", switched.event(29, 1), 2);
        Due.answer("lead() again", switched.lead(), 2);
        Due.answer("in the phase 0", new TableMove().lead(), 2);
        TableMove sameSums = new TableMove();
        sameSums.put(0, 3);
        sameSums.put(1, 1);
        sameSums.begin();
        sameSums.advance(38);
        sameSums.damage(0, 1);
        sameSums.damage(1, 2);
        Due.answer("differing rows with the same sums", sameSums.lead(), 0);
    }

    private static void goBackWith() {
        TableMove move = Moves.after();
        move.put(1, 777);
        move.remove(2);
        move.switchBack(4);
        move.setUp(0, false);
        move.put(3, 3);
        Due.answer("1 comes ahead of 4", move.goBack(true), 1);
        move.setUp(0, true);
        Due.answer("stale", move.goBack(true), 4);
        move.repair(1);
        move.setUp(1, false);
        Due.answer("new side down", move.goBack(true), 1);
        move.setUp(1, true);
        Due.answer("goBack(true)", move.goBack(true), 0);
        Due.answer("the phase", move.count(0), 1);
        Due.answer("what was written stays", move.stored(0, 1), 777);
        Due.answer("what was written stays", move.stored(1, 2), NONE);
        Due.answer("all stay copied", move.count(5), 15);
        Due.answer("none is checked", move.count(6), 0);
        Due.answer("readers stay", move.count(8), 7);
        Due.answer("event 8", move.event(29, 0), 8);
        Due.answer("event 8", move.event(29, 1), 1);
        Due.answer("goBack(true) again", move.goBack(true), 2);
        Due.answer("in the phase 0", new TableMove().goBack(true), 2);
        Due.answer("in the phase 3", Moves.over().goBack(true), 2);
    }

    private static void goBackWithout() {
        TableMove move = Moves.switched();
        move.put(7, 70);
        move.lead();
        move.put(1, 777);
        move.fill(10, 20, 5, 5);
        move.damage(4, 0);
        move.setUp(0, false);
        move.remove(3);
        Due.answer("old side down", move.goBack(false), 1);
        move.setUp(0, true);
        Due.answer("goBack(false)", move.goBack(false), 0);
        Due.answer("no key is stale", move.count(7), 0);
        for (int key = 0; key < 60; key++) {
            Due.answer("stored(0, " + key + ")", move.stored(0, key), key * 10);
            Due.answer("stored(1, " + key + ")", move.stored(1, key), key * 10 + 100);
        }
        Due.answer("all stay copied", move.count(5), 15);
        Due.answer("none is checked", move.count(6), 0);
        Due.answer("writes stay counted", move.written(1), 2);
        Due.answer("goBack(false) again", move.goBack(false), 2);
        Due.answer("in the phase 0", new TableMove().goBack(false), 2);
        move.put(1, 4);
        for (int chunk = 0; chunk < 15; chunk++) {
            move.check(chunk);
        }
        move.lead();
        move.put(1, 5);
        move.goBack(false);
        Due.answer("as kept aside by the latest lead()", move.stored(0, 1), 4);
    }

    private static void stop() {
        TableMove move = Moves.checked();
        move.switchOver(5);
        Due.answer("a reader is switched", move.stop(), 7);
        move.switchBack(5);
        move.setUp(1, false);
        move.put(1, 1);
        move.setUp(0, false);
        Due.answer("no side is needed", move.stop(), 0);
        Due.answer("the phase", move.count(0), 0);
        Due.answer("the old table stays", move.count(3), 60);
        Due.answer("the new table is empty", move.count(4), 0);
        Due.answer("nothing is copied", move.count(5), 0);
        Due.answer("nothing is checked", move.count(6), 0);
        Due.answer("nothing is stale", move.count(7), 0);
        Due.answer("the FORM stays", move.count(2), 100);
        Due.answer("event 8", move.event(29, 0), 8);
        Due.answer("event 8", move.event(29, 1), 0);
        Due.answer("stop() again", move.stop(), 2);
        Due.answer("2 comes ahead of 7", Moves.after().stop(), 2);
        Due.answer("in the phase 3", Moves.over().stop(), 2);
    }

    private static void finish() {
        TableMove move = Moves.after();
        move.switchBack(5);
        move.setUp(0, false);
        move.put(1, 1);
        move.setUp(1, false);
        Due.answer("7 comes ahead of 1", move.finish(), 7);
        TableMove other = Moves.after();
        other.setUp(0, false);
        other.put(1, 1);
        other.setUp(1, false);
        Due.answer("new side down", other.finish(), 1);
        other.setUp(1, true);
        Due.answer("finish()", other.finish(), 0);
        Due.answer("the phase", other.count(0), 3);
        Due.answer("the old table is empty", other.count(3), 0);
        Due.answer("the new table stays", other.stored(1, 1), 101);
        Due.answer("nothing is copied", other.count(5), 0);
        Due.answer("nothing is checked", other.count(6), 0);
        Due.answer("nothing is stale", other.count(7), 0);
        Due.answer("event 8", other.event(29, 1), 3);
        Due.answer("finish() again", other.finish(), 2);
        Due.answer("2 comes ahead of 7", Moves.doubled().finish(), 2);
    }

    private static void fill() {
        TableMove move = new TableMove();
        Due.answer("fill(0, 59, 999, 999)", move.fill(0, 59, 999, 999), 0);
        Due.answer("stored(0, 0)", move.stored(0, 0), 999);
        Due.answer("stored(0, 1)", move.stored(0, 1), 998);
        Due.answer("stored(0, 59)", move.stored(0, 59), 940);
        Due.answer("one change", move.count(11), 1);
        Due.answer("one act", move.account(0), 1);
        Due.answer("fill(5, 5, 1, 7)", move.fill(5, 5, 1, 7), 0);
        Due.answer("stored(0, 5)", move.stored(0, 5), 1);
        Due.answer("stored(0, 6)", move.stored(0, 6), 993);
        Due.answer("fill(10, 12, 990, 10)", move.fill(10, 12, 990, 10), 0);
        Due.answer("stored(0, 11)", move.stored(0, 11), 0);
        Due.answer("stored(0, 12)", move.stored(0, 12), 10);
        Due.index("fill(-1, 5, 0, 0)", () -> move.fill(-1, 5, 0, 0));
        Due.index("fill(5, 60, 0, 0)", () -> move.fill(5, 60, 0, 0));
        Due.index("fill(60, 60, 1000, 0)", () -> move.fill(60, 60, 1000, 0));
        Due.index("fill(5, 4, -1, 0)", () -> move.fill(5, 4, -1, 0));
        Due.argument("fill(5, 6, -1, 0)", () -> move.fill(5, 6, -1, 0));
        Due.argument("fill(5, 6, 1000, 0)", () -> move.fill(5, 6, 1000, 0));
        Due.argument("fill(5, 6, 0, -1)", () -> move.fill(5, 6, 0, -1));
        Due.argument("fill(5, 6, 0, 1000)", () -> move.fill(5, 6, 0, 1000));
        move.setUp(0, false);
        Due.answer("old side down", move.fill(0, 0, 0, 0), 1);
        TableMove after = Moves.after();
        after.fill(0, 1, 5, 5);
        Due.text("since", Moves.since(after), "1=10<10 0=5<0");
        Due.answer("the old one follows", after.stored(0, 1), 10);
        Due.answer("count(9)", after.count(9), 2);
    }

    private static void clearRange() {
        TableMove move = new TableMove();
        move.fill(10, 14, 1, 1);
        move.remove(12);
        Due.answer("clearRange(0, 9)", move.clearRange(0, 9), 8);
        Due.answer("clearRange(12, 12)", move.clearRange(12, 12), 8);
        Due.answer("clearRange(11, 59)", move.clearRange(11, 59), 0);
        Due.answer("count(3)", move.count(3), 1);
        Due.answer("written(12)", move.written(12), 2);
        Due.answer("written(13)", move.written(13), 2);
        Due.answer("written(20)", move.written(20), 0);
        Due.answer("one change", move.count(11), 3);
        Due.text("events", Moves.events(move), "0:10 0:11 0:12 0:13 0:14 0:12 0:11 0:13 0:14");
        move.setUp(0, false);
        Due.answer("1 comes ahead of 8", move.clearRange(0, 9), 1);
        Due.index("clearRange(-1, 5)", () -> move.clearRange(-1, 5));
        Due.index("clearRange(5, 60)", () -> move.clearRange(5, 60));
        Due.index("clearRange(5, 4)", () -> move.clearRange(5, 4));
        TableMove after = Moves.after();
        after.damage(0, NONE);
        after.clearRange(0, 1);
        Due.answer("only rows of the table that leads", after.stored(0, 0), 0);
        Due.answer("only rows of the table that leads", after.stored(0, 1), NONE);
        Due.answer("only rows of the table that leads", after.count(9), 1);
    }

    private static int[] refused(TableMove move) {
        return new int[] {move.put(1, 1), move.remove(1), move.begin(), move.copy(1), move.repair(1), move.check(0),
            move.switchOver(0), move.switchBack(0), move.lead(), move.goBack(true), move.goBack(false), move.stop(),
            move.finish(), move.fill(0, 9, 0, 0), move.clearRange(0, 9)};
    }

    private static void refusedActsChangeNothing() {
        Supplier<TableMove> made = Seen.then(Moves::after, move -> {
            move.setUp(0, false);
            move.put(1, 5);
            move.setUp(1, false);
        });
        for (int reason : refused(made.get())) {
            Due.answer("refused", reason != 0, true);
        }
        Seen.same("refused acts", Seen.all(Seen.then(made, ActsTest::refused)), Seen.all(made));
    }
}
