import java.util.function.Supplier;

/** Promises 35 to 37: why, next and advance. */
public final class ComingTest {
    private static final int NONE = TableMove.NONE;

    public static void main(String[] args) {
        why();
        whyIsWhatTheActsAnswer();
        next();
        advance();
        advanceThatStops();
        Due.end();
    }

    private static void whys(String when, Supplier<TableMove> made, int number, int... want) {
        TableMove move = made.get();
        for (int act = 0; act < want.length; act++) {
            Due.answer(when + ": why(" + act + ", " + number + ")", move.why(act, number), want[act]);
        }
        Seen.same(when + ": nothing is done", Seen.all(Seen.then(made, other -> {
            for (int act = 0; act < want.length; act++) {
                other.why(act, number);
            }
        })), Seen.all(made));
    }

    private static void why() {
        whys("new", TableMove::new, 0, 0, 2, 2, 2, 2, 2, 2, 2, 2, 2, 2);
        whys("doubled", Moves::doubled, 7, 2, 0, 9, 3, 3, 5, 3, 2, 2, 0, 2);
        whys("switched", Moves::switched, 3, 2, 9, 9, 0, 5, 0, 0, 2, 2, 7, 2);
        whys("after", Moves::after, 3, 2, 2, 9, 0, 5, 0, 2, 0, 0, 2, 0);
        whys("over", Moves::over, 3, 2, 2, 2, 2, 2, 2, 2, 2, 2, 2, 2);
        TableMove move = new TableMove();
        Due.argument("why(-1, 0)", () -> move.why(-1, 0));
        Due.argument("why(11, 0)", () -> move.why(11, 0));
        Due.argument("why(3, -1)", () -> move.why(3, -1));
        Due.argument("why(3, 15)", () -> move.why(3, 15));
        Due.argument("why(4, 8)", () -> move.why(4, 8));
        Due.argument("why(4, -1)", () -> move.why(4, -1));
        Due.argument("why(5, 8)", () -> move.why(5, 8));
        Due.argument("why(5, MIN)", () -> move.why(5, Integer.MIN_VALUE));
        Due.answer("why(3, 14)", move.why(3, 14), 2);
        Due.answer("why(0, 99)", move.why(0, 99), 0);
        Due.answer("why(10, -99)", move.why(10, -99), 2);
        for (int what = 0; what < 10; what++) {
            Due.answer("nothing is counted", move.account(what), 0);
        }
        Due.answer("no change", move.count(11), 0);
    }

    /** Every act in many states: what it answers is what why() told. */
    private static void whyIsWhatTheActsAnswer() {
        TableMove[] moves = {new TableMove(), Moves.doubled(), Moves.copied(), Moves.checked(), Moves.switched(),
            Moves.after(), Moves.over()};
        for (int i = 0; i < moves.length * 4; i++) {
            TableMove move = moves[i % moves.length];
            int round = i / moves.length;
            if (round == 1) {
                move.setUp(0, false);
                move.setUp(1, false);
            } else if (round == 2) {
                move.setUp(1, true);
                move.put(5, 5);
            } else if (round == 3) {
                move.setUp(0, true);
            }
            for (int act = 0; act < 11; act++) {
                int why = move.why(act, 1);
                int done = act(move, act, 1);
                Due.answer("act " + act + " in round " + round + " of " + i % moves.length, done, why);
                if (done == 0) {
                    move.undo();
                }
            }
        }
    }

    private static int act(TableMove move, int act, int number) {
        switch (act) {
            case 0: return move.begin();
            case 1: return move.copy(1);
            case 2: return move.repair(1);
            case 3: return move.check(number);
            case 4: return move.switchOver(number);
            case 5: return move.switchBack(number);
            case 6: return move.lead();
            case 7: return move.goBack(true);
            case 8: return move.goBack(false);
            case 9: return move.stop();
            default: return move.finish();
        }
    }

    private static void nexts(String when, TableMove move, int act, int number) {
        Due.answer(when + ": next(0)", move.next(0), act);
        Due.answer(when + ": next(1)", move.next(1), number);
    }

    private static void next() {
        nexts("new", new TableMove(), 0, 0);
        TableMove move = Moves.doubled();
        nexts("doubled", move, 1, 0);
        move.copy(14);
        nexts("14 copied", move, 1, 0);
        move.setUp(1, false);
        move.put(50, 1);
        nexts("stale, new side down", move, 2, 0);
        move.setUp(1, true);
        move.repair(1);
        move.copy(1);
        nexts("all copied", move, 3, 0);
        move.check(0);
        move.check(2);
        nexts("2 checked", move, 3, 1);
        for (int chunk = 0; chunk < 15; chunk++) {
            move.check(chunk);
        }
        nexts("all checked", move, 4, 0);
        move.switchOver(0);
        move.switchOver(1);
        move.switchOver(3);
        nexts("3 switched", move, 4, 2);
        nexts("all switched", Moves.switched(), 6, 0);
        TableMove after = Moves.after();
        nexts("after", after, 10, 0);
        after.switchBack(0);
        nexts("after, whether refused or not", after, 10, 0);
        after.setUp(0, false);
        after.put(1, 1);
        nexts("after, stale", after, 2, 0);
        nexts("over", Moves.over(), NONE, NONE);
        Due.argument("next(-1)", () -> move.next(-1));
        Due.argument("next(2)", () -> move.next(2));
        Due.argument("next(2) in the phase 3", () -> Moves.over().next(2));
    }

    private static void advance() {
        TableMove move = new TableMove();
        move.fill(0, 59, 0, 1);
        Due.answer("advance(1)", move.advance(1), 1);
        Due.answer("the phase", move.count(0), 1);
        Due.answer("advance(2)", move.advance(2), 2);
        Due.answer("copy(1) each", move.count(5), 2);
        Due.answer("a change each", move.count(11), 4);
        Due.answer("undo", move.undo(), 3);
        Due.answer("undone one", move.count(5), 1);
        Due.answer("advance(60)", move.advance(60), 14 + 15 + 8 + 1 + 1);
        Due.answer("the phase", move.count(0), 3);
        Due.answer("accounts", move.account(0), 1 + 3 + 39);
        Due.answer("advance(60), none comes next", move.advance(60), 0);
        Due.answer("none is no refusal", move.account(2), 0);
        Due.argument("advance(0)", () -> move.advance(0));
        Due.argument("advance(61)", () -> move.advance(61));
        Due.argument("advance(-1)", () -> move.advance(-1));
        TableMove stale = Moves.copied();
        stale.setUp(1, false);
        stale.fill(0, 4, 1, 1);
        stale.setUp(1, true);
        Due.answer("repair(1) each", stale.advance(3), 3);
        Due.answer("repair(1) each", stale.count(7), 2);
    }

    private static void advanceThatStops() {
        TableMove move = Moves.copied();
        move.setUp(1, false);
        Due.answer("refused", move.advance(60), 0);
        Due.answer("the refusal counts", move.account(1), 1);
        move.setUp(1, true);
        move.damage(6, 0);
        Due.answer("check, check, repair, check", move.advance(4), 4);
        Due.answer("repaired", move.stored(1, 6), 160);
        Due.answer("checked", move.count(6), 2);
        TableMove after = Moves.after();
        after.switchBack(2);
        Due.answer("finish() is refused", after.advance(5), 0);
        Due.answer("the refusal counts", after.account(7), 1);
        TableMove differs = Moves.switched();
        differs.damage(0, 0);
        Due.answer("lead() is refused", differs.advance(5), 0);
        Due.answer("the refusal counts", differs.account(6), 1);
    }
}
