/** Calls of TableMove by their names, with up to four numbers; a boolean is true for even numbers. */
final class Calls {
    private Calls() {
    }

    static String answer(TableMove move, String name, int[] a) {
        switch (name) {
            case "setForm": move.setForm(a[0], a[1]); return "";
            case "setUp": return "" + move.setUp(a[0], a[1] % 2 == 0);
            case "isSwitched": return "" + move.isSwitched(a[0]);
            case "mean": return "" + move.mean(a[0]);
            case "agreement": return "" + move.agreement();
            case "save": move.save(a[0]); return "";
            case "restore": move.restore(a[0]); return "";
            default: return "" + number(move, name, a);
        }
    }

    private static int number(TableMove move, String name, int[] a) {
        switch (name) {
            case "appendText": return move.appendText(a[0]);
            case "truncateText": return move.truncateText(a[0]);
            case "runScript": return move.runScript();
            case "errorCode": return move.errorCode();
            case "errorPosition": return move.errorPosition();
            case "damage": return move.damage(a[0], a[1]);
            case "count": return move.count(a[0]);
            case "stored": return move.stored(a[0], a[1]);
            case "read": return move.read(a[0], a[1]);
            case "chunk": return move.chunk(a[0], a[1]);
            case "stale": return move.stale(a[0]);
            case "brokenPromise": return move.brokenPromise();
            case "troubledReaders": return move.troubledReaders();
            case "event": return move.event(a[0], a[1]);
            case "since": return move.since(a[0], a[1]);
            case "account": return move.account(a[0]);
            default: return act(move, name, a);
        }
    }

    private static int act(TableMove move, String name, int[] a) {
        switch (name) {
            case "put": return move.put(a[0], a[1]);
            case "remove": return move.remove(a[0]);
            case "begin": return move.begin();
            case "copy": return move.copy(a[0]);
            case "repair": return move.repair(a[0]);
            case "check": return move.check(a[0]);
            case "switchOver": return move.switchOver(a[0]);
            case "switchBack": return move.switchBack(a[0]);
            case "lead": return move.lead();
            case "goBack": return move.goBack(a[0] % 2 == 0);
            case "stop": return move.stop();
            case "finish": return move.finish();
            case "fill": return move.fill(a[0], a[1], a[2], a[3]);
            case "clearRange": return move.clearRange(a[0], a[1]);
            default: return more(move, name, a);
        }
    }

    private static int more(TableMove move, String name, int[] a) {
        switch (name) {
            case "why": return move.why(a[0], a[1]);
            case "next": return move.next(a[0]);
            case "advance": return move.advance(a[0]);
            case "differing": return move.differing(a[0]);
            case "lookup": return move.lookup(a[0], a[1]);
            case "total": return move.total(a[0], a[1]);
            case "readSum": return move.readSum(a[0], a[1], a[2]);
            case "written": return move.written(a[0]);
            case "changed": return move.changed(a[0]);
            case "eventsOf": return move.eventsOf(a[0], a[1]);
            case "write": return move.write(a[0]);
            case "output": return move.output(a[0]);
            case "undo": return move.undo();
            default: throw new IllegalArgumentException(name);
        }
    }
}
