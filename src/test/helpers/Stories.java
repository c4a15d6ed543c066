import java.util.List;
import java.util.function.Supplier;

/** Objects in every phase, each with something in all that it can hold. */
final class Stories {
    /** What a test has to know of the object: its phase, the bytes of its text, its events, and the slots that are saved. */
    record Story(String name, int phase, int text, int events, boolean saved0, boolean saved1, Supplier<TableMove> made) {
        boolean saved(int slot) {
            return slot == 0 ? saved0 : saved1;
        }
    }

    /** A script that can be run in every phase. */
    private static final String TEXT = "put 17 171;";

    private Stories() {
    }

    static List<Story> all() {
        return List.of(
            new Story("new", 0, 0, 0, false, false, TableMove::new),
            new Story("before", 0, 11, 22, false, true, Stories::before),
            new Story("double", 1, 11, 30, true, false, Stories::doubled),
            new Story("after", 2, 11, 30, true, true, Stories::after),
            new Story("over", 3, 11, 30, false, true, Stories::over));
    }

    private static TableMove before() {
        TableMove move = new TableMove();
        move.setForm(2, 7);
        move.fill(0, 20, 3, 17);
        move.save(1);
        move.remove(4);
        move.setUp(1, false);
        return talkative(move);
    }

    /** With stale keys, and chunks that are not copied, not checked, and checked. */
    private static TableMove doubled() {
        TableMove move = Moves.doubled();
        move.copy(3);
        move.check(0);
        move.check(1);
        move.save(0);
        move.setUp(1, false);
        move.put(20, 12);
        move.put(1, 11);
        move.remove(9);
        return talkative(move);
    }

    /** With writes, stale keys, a broken cell, and a reader that is switched back. */
    private static TableMove after() {
        TableMove move = Moves.after();
        move.save(0);
        move.fill(3, 9, 5, 5);
        move.switchBack(3);
        move.damage(30, 7);
        move.setUp(0, false);
        move.save(1);
        move.put(40, 4);
        move.remove(8);
        return talkative(move);
    }

    private static TableMove over() {
        TableMove move = Moves.over();
        move.save(1);
        move.put(2, 22);
        move.damage(59, 9);
        move.remove(3);
        return talkative(move);
    }

    /** With refusals, an error, an output, and a text. */
    private static TableMove talkative(TableMove move) {
        move.lead();
        move.finish();
        Moves.run(move, "put 1 1; put 1 1000;");
        move.write(2);
        Moves.type(move, TEXT);
        return move;
    }
}
