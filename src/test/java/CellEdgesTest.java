import java.util.ArrayList;
import java.util.List;
import java.util.TreeSet;

/**
 * The part TABLES of the document for every FORM with every AMOUNT: the cells of the least and the
 * greatest values, and which cells next to them are broken; and what a broken cell is everywhere else
 * (promises 12, 14, 16, 17, 19, 38 to 43 and 47).
 */
public final class CellEdgesTest {
    private static final int NONE = TableMove.NONE;
    private static final int BROKEN = TableMove.BROKEN;
    /** So many cells are read of one object, so that it stays below 512 calls. */
    private static final int BATCH = 100;

    public static void main(String[] args) {
        form(0, 0);
        form(3, 0);
        for (int amount = 0; amount <= 999; amount++) {
            form(1, amount);
        }
        for (int amount = 1; amount <= 9; amount++) {
            form(2, amount);
        }
        oldTableHasNoForm();
        brokenCellsEverywhere();
        brokenAtTheEnds();
        brokenCellThatLeads();
        brokenAndMissing();
        brokenWithTheSameSum();
        Due.end();
    }

    private static int cell(int form, int amount, int value) {
        switch (form) {
            case 1: return value + amount;
            case 2: return value * amount;
            case 3: return 999 - value;
            default: return value;
        }
    }

    private static int value(int form, int amount, int cell) {
        for (int value = 0; value <= 999; value++) {
            if (cell(form, amount, value) == cell) {
                return value;
            }
        }
        return BROKEN;
    }

    private static TableMove begun(int form, int amount) {
        TableMove move = new TableMove();
        move.setForm(form, amount);
        move.begin();
        move.copy(15);
        for (int chunk = 0; chunk < 15; chunk++) {
            move.check(chunk);
        }
        move.switchOver(0);
        return move;
    }

    /** Cells at the ends of all cells and of those with values, and some between them. */
    private static List<Integer> cells(int form, int amount) {
        TreeSet<Integer> cells = new TreeSet<>();
        for (int around : new int[] {0, 500, 999, 1000, 5000, 9999, cell(form, amount, 0), cell(form, amount, 999),
                cell(form, amount, 500)}) {
            for (int cell = around - 10; cell <= around + 10; cell++) {
                if (cell >= 0 && cell <= 9999) {
                    cells.add(cell);
                }
            }
        }
        return new ArrayList<>(cells);
    }

    private static void form(int form, int amount) {
        String when = "FORM " + form + " AMOUNT " + amount;
        TableMove stored = begun(form, amount);
        for (int value : new int[] {0, 1, 2, 499, 500, 998, 999}) {
            stored.put(59, value);
            Due.answer(when + ": the cell of " + value, stored.stored(1, 59), cell(form, amount, value));
            Due.answer(when + ": the value " + value + " in the old table", stored.stored(0, 59), value);
            Due.answer(when + ": the value " + value + " is read", stored.read(0, 59), value);
        }
        List<Integer> cells = cells(form, amount);
        for (int from = 0; from < cells.size(); from += BATCH) {
            TableMove move = begun(form, amount);
            for (int cell : cells.subList(from, Math.min(from + BATCH, cells.size()))) {
                move.damage(0, cell);
                int value = value(form, amount, cell);
                Due.answer(when + ": the value of the cell " + cell, move.read(0, 0), value);
                Due.answer(when + ": broken cells with " + cell, move.total(1, 3), value == BROKEN ? 1 : 0);
                Due.answer(when + ": the sum of the cell " + cell, move.chunk(0, 3), value == BROKEN ? 1001 : value + 1);
            }
        }
    }

    private static void oldTableHasNoForm() {
        TableMove move = new TableMove();
        move.setForm(2, 9);
        move.put(0, 5);
        move.put(1, 999);
        Due.answer("values as they are", move.read(0, 0), 5);
        Due.answer("values as they are", move.stored(0, 1), 999);
        Due.answer("no broken cells", move.total(0, 3), 0);
        Due.answer("their sum", move.chunk(0, 2), 6 + 2000);
    }

    private static void brokenCellsEverywhere() {
        TableMove move = Moves.switched();
        move.damage(10, 99);
        Due.answer("read()", move.read(0, 10), BROKEN);
        Due.answer("stored() tells the cell", move.stored(1, 10), 99);
        Due.answer("it is a row", move.count(4), 60);
        Due.answer("the sum takes it as 1000", move.chunk(2, 3), move.chunk(2, 2) + 11 * (1000 - 100));
        Due.answer("the row differs", move.chunk(2, 5), 10);
        Due.answer("the row differs", move.differing(0), 10);
        Due.answer("only this row differs", move.differing(1), NONE);
        Due.answer("brokenPromise()", move.brokenPromise(), 10);
        Due.answer("troubledReaders()", move.troubledReaders(), 255);
        Due.answer("it has no value", move.lookup(1, 100), NONE);
        Due.answer("it has no value", move.total(1, 0), 17700 - 100);
        Due.real("it has no value", move.mean(1), 17600.0 / 59.0);
        Due.real("agreement()", move.agreement(), 59.0f / 60.0f);
        Due.answer("readSum()", move.readSum(0, 0, 59), BROKEN);
        Due.text("write()", Moves.written(move, 2), "2 copied checked 8:80/80 9:90/90 10:100/? 11:110/110");
        Due.answer("no key is stale by it", move.count(7), 0);
        move.damage(10, 1100);
        Due.answer("1100 is broken", move.read(0, 10), BROKEN);
        move.damage(10, 1099);
        Due.answer("1099 is not", move.read(0, 10), 999);
        move.damage(10, 100);
        Due.answer("100 is not", move.read(0, 10), 0);
    }

    private static void brokenAtTheEnds() {
        for (int key : new int[] {0, 1, 3, 4, 30, 55, 56, 58, 59}) {
            TableMove move = Moves.switched();
            move.damage(key, 0);
            Due.answer("readSum() with " + key, move.readSum(7, key, key), BROKEN);
            Due.answer("readSum() up to " + key, move.readSum(7, 0, key), BROKEN);
            Due.answer("readSum() from " + key, move.readSum(7, key, 59), BROKEN);
            if (key > 0) {
                Due.answer("readSum() ahead of " + key, move.readSum(7, 0, key - 1), 5 * key * (key - 1));
            }
            if (key < 59) {
                Due.answer("readSum() behind " + key, move.readSum(7, key + 1, 59), 17700 - 5 * key * (key + 1));
            }
            Due.answer("differing() with " + key, move.differing(0), key);
            Due.answer("brokenPromise() with " + key, move.brokenPromise(), key);
            Due.answer("chunk() with " + key, move.chunk(key / 4, 5), key);
            Due.answer("troubledReaders() with " + key, move.troubledReaders(), 255);
            Due.answer("total() with " + key, move.total(1, 3), 1);
            Due.answer("lookup() with " + key, move.lookup(1, 10 * key), NONE);
            for (int chunk = 0; chunk < 15; chunk++) {
                Due.answer("chunk " + chunk + " with " + key, move.chunk(chunk, 2) == move.chunk(chunk, 3), chunk != key / 4);
            }
            move.check(key / 4);
            Due.answer("check() names " + key, move.stale(0), key);
            Due.answer("check() names " + key, move.event(29, 1), key);
        }
    }

    private static void brokenCellThatLeads() {
        TableMove move = Moves.after();
        move.damage(59, 9999);
        Due.answer("check()", move.check(14), 0);
        Due.answer("it becomes stale", move.stale(0), 59);
        Due.answer("repair()", move.repair(1), 0);
        Due.answer("its value is taken as 0", move.stored(0, 59), 0);
        Due.answer("the cell stays", move.stored(1, 59), 9999);
        Due.answer("the rows still differ", move.differing(0), 59);
        Due.answer("it is not stale any more", move.count(7), 0);
        move.put(59, 8);
        Due.answer("the value ahead of the write", move.since(0, 2), BROKEN);
        Due.answer("the write mends it", move.stored(1, 59), 108);
        Due.answer("the write mends it", move.stored(0, 59), 8);
        move.damage(0, 9999);
        Due.answer("a broken cell is a row to remove", move.remove(0), 0);
        Due.answer("the value ahead of the removal", move.since(0, 2), BROKEN);
        Due.answer("the removed row has no value", move.since(0, 1), NONE);
        Due.answer("it is removed from both", move.stored(0, 0), NONE);
        TableMove follows = Moves.copied();
        follows.damage(7, 9999);
        follows.put(7, 70);
        Due.answer("a broken cell of the table that follows is written over", follows.stored(1, 7), 170);
    }

    private static void brokenAndMissing() {
        TableMove move = Moves.copied();
        move.remove(5);
        Due.answer("both rows are missing", move.differing(0), NONE);
        move.damage(5, 0);
        Due.answer("a broken cell, and no row", move.differing(0), 5);
        Due.answer("a broken cell, and no row", move.brokenPromise(), 5);
        Due.text("a broken cell, and no row", Moves.written(move, 1), "1 copied 4:40/40 5:-/? 6:60/60 7:70/70");
        Due.real("a broken cell, and no row", move.agreement(), 59.0f / 60.0f);
        move.damage(5, NONE);
        Due.real("a key without any row", move.agreement(), 1.0);
        move.damage(4, NONE);
        Due.answer("a row is missing", move.differing(0), 4);
        Due.answer("a row is missing", move.chunk(1, 5), 4);
        Due.text("a row is missing", Moves.written(move, 1), "1 copied 4:40/- 6:60/60 7:70/70");
        move.damage(4, 140);
        move.damage(0, 101);
        Due.answer("another value", move.differing(0), 0);
        move.damage(0, NONE);
        Due.answer("no row is not the value 0", move.differing(0), 0);
        Due.answer("no row is not the value 0", move.chunk(0, 2) - move.chunk(0, 3), 1);
    }

    /** A chunk whose rows differ can have the same sums, with a broken cell, too. */
    private static void brokenWithTheSameSum() {
        TableMove move = new TableMove();
        move.setForm(1, 1);
        move.put(0, 998);
        move.put(1, 0);
        move.begin();
        move.copy(15);
        move.damage(0, 0);
        move.damage(1, NONE);
        Due.answer("the sum in the old table", move.chunk(0, 2), 999 + 2);
        Due.answer("the sum in the new table", move.chunk(0, 3), 1001);
        Due.answer("check()", move.check(0), 0);
        Due.answer("it is checked", move.chunk(0, 1), 1);
        Due.answer("event 4", move.event(move.count(10) - 1, 0), 4);
        Due.answer("no key is stale", move.count(7), 0);
        Due.answer("but the rows differ", move.chunk(0, 5), 0);
        Due.answer("both of them", move.differing(1), 1);
        Due.answer("advance() leads to the end", move.advance(60), 14 + 8 + 1 + 1);
    }
}
