/** Promises 7 to 9: setForm, setUp and damage. */
public final class SettingsTest {
    public static void main(String[] args) {
        forms();
        wrongForms();
        sidesUpAndDown();
        damage();
        wrongDamage();
        Due.end();
    }

    private static int cell(int form, int amount, int value) {
        TableMove move = new TableMove();
        move.setForm(form, amount);
        move.put(0, value);
        move.begin();
        move.copy(1);
        return move.stored(1, 0);
    }

    private static int value(int form, int amount, int cell) {
        TableMove move = new TableMove();
        move.setForm(form, amount);
        move.begin();
        move.copy(15);
        for (int i = 0; i < 60; i++) {
            move.advance(1);
        }
        move.undo();
        move.damage(0, cell);
        return move.read(0, 0);
    }

    private static void forms() {
        Due.answer("FORM 0", cell(0, 0, 0), 0);
        Due.answer("FORM 0", cell(0, 0, 999), 999);
        Due.answer("FORM 1", cell(1, 0, 5), 5);
        Due.answer("FORM 1", cell(1, 999, 999), 1998);
        Due.answer("FORM 2", cell(2, 1, 7), 7);
        Due.answer("FORM 2", cell(2, 9, 999), 8991);
        Due.answer("FORM 3", cell(3, 0, 0), 999);
        Due.answer("FORM 3", cell(3, 0, 999), 0);
        Due.answer("FORM 0 back", value(0, 0, 999), 999);
        Due.answer("FORM 0 broken", value(0, 0, 1000), TableMove.BROKEN);
        Due.answer("FORM 1 back", value(1, 50, 50), 0);
        Due.answer("FORM 1 back", value(1, 50, 1049), 999);
        Due.answer("FORM 1 broken", value(1, 50, 49), TableMove.BROKEN);
        Due.answer("FORM 1 broken", value(1, 50, 1050), TableMove.BROKEN);
        Due.answer("FORM 1 broken", value(1, 2, 0), TableMove.BROKEN);
        Due.answer("FORM 1 broken", value(1, 1, 0), TableMove.BROKEN);
        Due.answer("FORM 2 back", value(2, 7, 6993), 999);
        Due.answer("FORM 2 back", value(2, 7, 0), 0);
        Due.answer("FORM 2 broken", value(2, 7, 7000), TableMove.BROKEN);
        Due.answer("FORM 2 broken", value(2, 7, 8), TableMove.BROKEN);
        Due.answer("FORM 3 back", value(3, 0, 0), 999);
        Due.answer("FORM 3 back", value(3, 0, 999), 0);
        Due.answer("FORM 3 broken", value(3, 0, 1000), TableMove.BROKEN);
        Due.answer("FORM 3 broken", value(3, 0, 1001), TableMove.BROKEN);
        TableMove move = new TableMove();
        move.setForm(2, 3);
        Due.answer("count(1)", move.count(1), 2);
        Due.answer("count(2)", move.count(2), 3);
        move.setForm(2, 3);
        Due.answer("each setForm() is a change", move.count(11), 2);
        Due.answer("setForm() is no act", move.account(0), 0);
        move.undo();
        move.undo();
        Due.answer("undone", move.count(1), 0);
        Due.answer("undone", move.count(2), 0);
    }

    private static void wrongForms() {
        TableMove move = new TableMove();
        int[][] wrong = {{-1, 0}, {4, 0}, {0, 1}, {0, -1}, {1, -1}, {1, 1000}, {2, 0}, {2, 10}, {2, -1}, {3, 1}, {3, -1},
            {Integer.MIN_VALUE, 0}, {1, Integer.MAX_VALUE}};
        for (int[] form : wrong) {
            Due.argument("setForm(" + form[0] + ", " + form[1] + ")", () -> move.setForm(form[0], form[1]));
        }
        Due.answer("nothing changed", move.count(11), 0);
        int[][] right = {{0, 0}, {1, 0}, {1, 999}, {2, 1}, {2, 9}, {3, 0}};
        for (int[] form : right) {
            move.setForm(form[0], form[1]);
            Due.answer("count(1)", move.count(1), form[0]);
            Due.answer("count(2)", move.count(2), form[1]);
        }
        move.begin();
        Due.state("setForm(0, 0) in the phase 1", () -> move.setForm(0, 0));
        Due.argument("setForm(0, 1) in the phase 1", () -> move.setForm(0, 1));
        Due.answer("nothing changed", move.count(1), 3);
        move.stop();
        move.setForm(1, 8);
        Due.answer("after stop()", move.count(2), 8);
        Due.state("setForm() in the phase 2", () -> Moves.after().setForm(0, 0));
        Due.state("setForm() in the phase 3", () -> Moves.over().setForm(0, 0));
    }

    private static void sidesUpAndDown() {
        TableMove move = new TableMove();
        Due.answer("setUp(0, false)", move.setUp(0, false), true);
        Due.answer("setUp(0, false) again", move.setUp(0, false), false);
        Due.answer("count(12)", move.count(12), 0);
        Due.answer("count(13)", move.count(13), 1);
        Due.answer("setUp(1, true)", move.setUp(1, true), true);
        Due.answer("setUp(1, false)", move.setUp(1, false), true);
        Due.answer("setUp(0, true)", move.setUp(0, true), false);
        Due.answer("count(12)", move.count(12), 1);
        Due.answer("count(13)", move.count(13), 0);
        Due.answer("each call is a change", move.count(11), 5);
        Due.answer("no act", move.account(0), 0);
        Due.index("setUp(-1, true)", () -> move.setUp(-1, true));
        Due.index("setUp(2, false)", () -> move.setUp(2, false));
        Due.answer("nothing changed", move.count(11), 5);
        Due.answer("undo", move.undo(), 4);
        Due.answer("undone", move.count(12), 0);
    }

    private static void damage() {
        TableMove move = Moves.checked();
        Due.answer("damage(0, 9999)", move.damage(0, 9999), 100);
        Due.answer("damage(0, 0)", move.damage(0, 0), 9999);
        Due.answer("damage(0, NONE)", move.damage(0, TableMove.NONE), 0);
        Due.answer("damage(0, NONE) again", move.damage(0, TableMove.NONE), TableMove.NONE);
        Due.answer("damage(59, 700)", move.damage(59, 700), 690);
        Due.answer("stored(0, 0)", move.stored(0, 0), 0);
        Due.answer("stored(1, 0)", move.stored(1, 0), TableMove.NONE);
        Due.answer("no key is stale", move.count(7), 0);
        Due.answer("all stay checked", move.count(6), 15);
        Due.answer("no event", move.event(29, 0), 4);
        Due.answer("no write", move.written(0), 1);
        Due.answer("a change each", move.count(11), 10);
        move.undo();
        Due.answer("undone", move.stored(1, 59), 690);
        TableMove down = Moves.after();
        down.setUp(1, false);
        Due.answer("damage() of a side that is down", down.damage(3, 100), 130);
        Due.answer("damage() is no write", down.count(9), 0);
        Due.answer("damage() in the phase 3", Moves.over().damage(3, 5), 130);
    }

    private static void wrongDamage() {
        TableMove move = new TableMove();
        Due.index("damage(-1, 0)", () -> move.damage(-1, 0));
        Due.index("damage(60, 10000)", () -> move.damage(60, 10000));
        Due.argument("damage(0, 10000)", () -> move.damage(0, 10000));
        Due.argument("damage(0, -2)", () -> move.damage(0, -2));
        Due.state("damage(0, 0) in the phase 0", () -> move.damage(0, 0));
        move.begin();
        Due.index("damage(60, 0)", () -> move.damage(60, 0));
        Due.argument("damage(59, 10000)", () -> move.damage(59, 10000));
        Due.answer("nothing changed", move.count(11), 1);
        Due.answer("damage(59, 9999)", move.damage(59, 9999), TableMove.NONE);
    }
}
