/**
 * The migration of a live table: an old and a new table, double writes, chunks that are copied,
 * checks by sums, readers that are switched one by one, and ways back.
 *
 * Sets of chunks, readers and sides are bits of an int: the member m is in the set if bit m is 1.
 */
public final class TableMove {
    public static final int NONE = -1;
    public static final int DOWN = -2;
    public static final int BROKEN = -3;

    private static final int KEYS = 60;
    private static final int CHUNKS = 15;
    private static final int CHUNK_KEYS = 4;
    private static final int READERS = 8;
    private static final int SIDES = 2;
    private static final int ALL_CHUNKS = (1 << CHUNKS) - 1;
    private static final int ALL_READERS = (1 << READERS) - 1;
    private static final int ALL_SIDES = (1 << SIDES) - 1;
    private static final int TOP_VALUE = 999;
    private static final int TOP_CELL = 9999;
    private static final int VALUES = 1000;
    private static final int MOST_COUNT = 15;
    private static final int MOST_ADVANCES = 60;
    private static final int KEPT_EVENTS = 30;
    private static final int KEPT_WRITES = 20;
    private static final int KEPT_CHANGES = 10;
    private static final int SLOTS = 2;
    private static final int TEXT_BYTES = 600;
    private static final int MOST_COMMANDS = 30;
    private static final int COUNTS = 15;
    private static final int CHUNK_FACTS = 6;
    private static final int TOTALS = 4;
    private static final int WRITE_FACTS = 3;

    private static final int OLD = 0;
    private static final int NEW = 1;

    private static final int BEFORE = 0;
    private static final int DOUBLE = 1;
    private static final int AFTER = 2;
    private static final int OVER = 3;

    private static final int SAME = 0;
    private static final int PLUS = 1;
    private static final int TIMES = 2;
    private static final int MIRROR = 3;

    private static final int DONE = 0;
    private static final int SIDE_IS_DOWN = 1;
    private static final int WRONG_PHASE = 2;
    private static final int NOT_COPIED = 3;
    private static final int KEY_IS_STALE = 4;
    private static final int READER_IS_SO = 5;
    private static final int NOT_CHECKED = 6;
    private static final int READERS_NOT_SO = 7;
    private static final int NO_SUCH_ROW = 8;
    private static final int NOTHING_TO_DO = 9;
    private static final int REASONS = 10;

    private static final int ROW_WRITTEN = 0;
    private static final int BECAME_STALE = 1;
    private static final int CHUNK_COPIED = 2;
    private static final int KEY_REPAIRED = 3;
    private static final int CHUNK_AGREES = 4;
    private static final int CHUNK_DIFFERS = 5;
    private static final int READER_SWITCHED = 6;
    private static final int READER_BACK = 7;
    private static final int NEW_PHASE = 8;
    private static final int KINDS = 9;

    private static final int BEGIN = 0;
    private static final int COPY = 1;
    private static final int REPAIR = 2;
    private static final int CHECK = 3;
    private static final int SWITCH_OVER = 4;
    private static final int SWITCH_BACK = 5;
    private static final int LEAD = 6;
    private static final int GO_BACK_WITH = 7;
    private static final int GO_BACK_WITHOUT = 8;
    private static final int STOP = 9;
    private static final int FINISH = 10;
    private static final int ACTS = 11;
    // Scripts know these two besides the acts that why() knows.
    private static final int PUT = 11;
    private static final int REMOVE = 12;

    private static final int NOT_ALLOWED = 1;
    private static final int OUT_OF_RANGE = 2;
    private static final int TOO_MANY_COMMANDS = 3;

    private static final Command[] COMMANDS = Command.values();

    private final State state = new State();
    private final State[] history = new State[KEPT_CHANGES];
    private int oldestChange;
    private int changes;
    private final State[] saved = new State[SLOTS];
    private int savedSlots;
    private final int[] accounts = new int[REASONS];
    private final Script script = new Script();
    private final StringBuilder output = new StringBuilder();

    public TableMove() {
        for (int i = 0; i < KEPT_CHANGES; i++) {
            history[i] = new State();
        }
        for (int i = 0; i < SLOTS; i++) {
            saved[i] = new State();
        }
    }

    // ---- scripts

    public int appendText(int fourBytes) throws IllegalStateException {
        requireState(script.length + 4 <= TEXT_BYTES);
        for (int shift = 24; shift >= 0; shift -= 8) {
            script.text[script.length] = (char) ((fourBytes >>> shift) & 255);
            script.length++;
        }
        return script.length;
    }

    public int truncateText(int length) throws IllegalArgumentException {
        requireArgument(length >= 0 && length <= script.length);
        script.length = length;
        return length;
    }

    public int runScript() {
        script.parse();
        script.length = 0;
        if (script.errorCode != 0) {
            return NONE;
        }
        for (int i = 0; i < script.commands; i++) {
            int act = script.acts[i];
            int first = script.firsts[i];
            int reason;
            switch (act) {
                case PUT: reason = writeRows(first, first, script.seconds[i], 0); break;
                case REMOVE: reason = removeRows(first, first); break;
                default: reason = attempt(act, first); break;
            }
            if (reason != DONE) {
                return i;
            }
        }
        return script.commands;
    }

    public int errorCode() {
        return script.errorCode;
    }

    public int errorPosition() {
        return script.errorPosition;
    }

    // ---- settings

    public void setForm(int form, int amount) throws IllegalArgumentException, IllegalStateException {
        requireArgument(isForm(form, amount));
        requireState(state.phase == BEFORE);
        remember();
        state.tables.form = form;
        state.tables.amount = amount;
    }

    public boolean setUp(int side, boolean up) throws IndexOutOfBoundsException {
        requireIndex(isSide(side));
        boolean before = has(state.up, side);
        remember();
        state.up = up ? state.up | (1 << side) : state.up & ~(1 << side);
        return before;
    }

    public int damage(int key, int cell) throws IndexOutOfBoundsException, IllegalArgumentException, IllegalStateException {
        requireIndex(isKey(key));
        requireArgument(cell >= NONE && cell <= TOP_CELL);
        requireState(state.phase != BEFORE);
        int before = state.tables.cells[NEW][key];
        remember();
        state.tables.cells[NEW][key] = cell;
        return before;
    }

    // ---- what there is

    public int count(int what) throws IllegalArgumentException {
        requireArgument(what >= 0 && what < COUNTS);
        switch (what) {
            case 0: return state.phase;
            case 1: return state.tables.form;
            case 2: return state.tables.amount;
            case 3: return state.tables.rowsOf(OLD);
            case 4: return state.tables.rowsOf(NEW);
            case 5: return Integer.bitCount(state.copied);
            case 6: return Integer.bitCount(state.checked);
            case 7: return state.queue.length;
            case 8: return Integer.bitCount(state.switched);
            case 9: return state.phase == AFTER ? state.writes.all : 0;
            case 10: return state.events.kept;
            case 11: return changes;
            case 12: return has(state.up, OLD) ? 1 : 0;
            case 13: return has(state.up, NEW) ? 1 : 0;
            default: return state.leader();
        }
    }

    public int stored(int side, int key) throws IndexOutOfBoundsException {
        requireIndex(isSide(side) && isKey(key));
        return state.tables.cells[side][key];
    }

    public int read(int reader, int key) throws IndexOutOfBoundsException {
        requireIndex(isReader(reader) && isKey(key));
        int side = state.sideOf(reader);
        return has(state.up, side) ? state.tables.valueAt(side, key) : DOWN;
    }

    public boolean isSwitched(int reader) throws IndexOutOfBoundsException {
        requireIndex(isReader(reader));
        return has(state.switched, reader);
    }

    public int chunk(int chunk, int what) throws IndexOutOfBoundsException, IllegalArgumentException {
        requireIndex(isChunk(chunk));
        requireArgument(what >= 0 && what < CHUNK_FACTS);
        switch (what) {
            case 0: return has(state.copied, chunk) ? 1 : 0;
            case 1: return has(state.checked, chunk) ? 1 : 0;
            case 2: return state.tables.sumOf(OLD, chunk);
            case 3: return state.tables.sumOf(NEW, chunk);
            case 4: return state.queue.heldOf(chunk);
            default: return state.isDouble() ? state.tables.firstDifference(chunk) : NONE;
        }
    }

    public int stale(int index) throws IndexOutOfBoundsException {
        requireIndex(index >= 0);
        return index < state.queue.length ? state.queue.keys[index] : NONE;
    }

    public int brokenPromise() {
        if (!state.isDouble()) {
            return NONE;
        }
        for (int key = 0; key < KEYS; key++) {
            if (has(state.copied, key / CHUNK_KEYS) && !state.queue.holds(key) && state.tables.differ(key)) {
                return key;
            }
        }
        return NONE;
    }

    public int troubledReaders() {
        boolean broken = state.tables.brokenCells(NEW) > 0;
        int troubled = 0;
        for (int reader = 0; reader < READERS; reader++) {
            int side = state.sideOf(reader);
            if (!has(state.up, side) || (side == NEW && broken)) {
                troubled |= 1 << reader;
            }
        }
        return troubled;
    }

    public int event(int event, int what) throws IndexOutOfBoundsException, IllegalArgumentException {
        requireIndex(event >= 0 && event < state.events.kept);
        requireArgument(what == 0 || what == 1);
        return what == 0 ? state.events.kinds[event] : state.events.numbers[event];
    }

    public int since(int index, int what) throws IndexOutOfBoundsException, IllegalArgumentException {
        requireIndex(index >= 0);
        requireArgument(what >= 0 && what < WRITE_FACTS);
        if (state.phase != AFTER || index >= state.writes.kept()) {
            return NONE;
        }
        return state.writes.facts[what][index];
    }

    public int account(int what) throws IllegalArgumentException {
        requireArgument(what >= 0 && what < REASONS);
        return accounts[what];
    }

    // ---- acts

    public int put(int key, int value) throws IndexOutOfBoundsException, IllegalArgumentException {
        requireIndex(isKey(key));
        requireArgument(isValue(value));
        return writeRows(key, key, value, 0);
    }

    public int remove(int key) throws IndexOutOfBoundsException {
        requireIndex(isKey(key));
        return removeRows(key, key);
    }

    public int begin() {
        return attempt(BEGIN, 0);
    }

    public int copy(int chunks) throws IllegalArgumentException {
        requireArgument(chunks >= 1 && chunks <= MOST_COUNT);
        return attempt(COPY, chunks);
    }

    public int repair(int keys) throws IllegalArgumentException {
        requireArgument(keys >= 1 && keys <= MOST_COUNT);
        return attempt(REPAIR, keys);
    }

    public int check(int chunk) throws IndexOutOfBoundsException {
        requireIndex(isChunk(chunk));
        return attempt(CHECK, chunk);
    }

    public int switchOver(int reader) throws IndexOutOfBoundsException {
        requireIndex(isReader(reader));
        return attempt(SWITCH_OVER, reader);
    }

    public int switchBack(int reader) throws IndexOutOfBoundsException {
        requireIndex(isReader(reader));
        return attempt(SWITCH_BACK, reader);
    }

    public int lead() {
        return attempt(LEAD, 0);
    }

    public int goBack(boolean with) {
        return attempt(with ? GO_BACK_WITH : GO_BACK_WITHOUT, 0);
    }

    public int stop() {
        return attempt(STOP, 0);
    }

    public int finish() {
        return attempt(FINISH, 0);
    }

    public int fill(int from, int to, int value, int step) throws IndexOutOfBoundsException, IllegalArgumentException {
        requireIndex(isRange(from, to));
        requireArgument(isValue(value) && isValue(step));
        return writeRows(from, to, value, step);
    }

    public int clearRange(int from, int to) throws IndexOutOfBoundsException {
        requireIndex(isRange(from, to));
        return removeRows(from, to);
    }

    // ---- what would be, and what comes next

    public int why(int act, int number) throws IllegalArgumentException {
        requireArgument(act >= 0 && act < ACTS);
        requireArgument(act != CHECK || isChunk(number));
        requireArgument((act != SWITCH_OVER && act != SWITCH_BACK) || isReader(number));
        return state.reasonAgainst(act, number);
    }

    public int next(int what) throws IllegalArgumentException {
        requireArgument(what == 0 || what == 1);
        int act = state.nextAct();
        return what == 0 || act == NONE ? act : state.numberFor(act);
    }

    public int advance(int most) throws IllegalArgumentException {
        requireArgument(most >= 1 && most <= MOST_ADVANCES);
        for (int done = 0; done < most; done++) {
            int act = state.nextAct();
            int number = act == COPY || act == REPAIR ? 1 : state.numberFor(act);
            if (act == NONE || attempt(act, number) != DONE) {
                return done;
            }
        }
        return most;
    }

    // ---- more about both tables

    public int differing(int index) throws IndexOutOfBoundsException {
        requireIndex(index >= 0);
        if (!state.isDouble()) {
            return NONE;
        }
        int place = 0;
        for (int key = 0; key < KEYS; key++) {
            if (state.tables.differ(key)) {
                if (place == index) {
                    return key;
                }
                place++;
            }
        }
        return NONE;
    }

    public int lookup(int side, int value) throws IndexOutOfBoundsException, IllegalArgumentException {
        requireIndex(isSide(side));
        requireArgument(isValue(value));
        for (int key = 0; key < KEYS; key++) {
            if (state.tables.valueAt(side, key) == value) {
                return key;
            }
        }
        return NONE;
    }

    public int total(int side, int what) throws IndexOutOfBoundsException, IllegalArgumentException {
        requireIndex(isSide(side));
        requireArgument(what >= 0 && what < TOTALS);
        switch (what) {
            case 0: return state.tables.valueSum(side, 0, KEYS - 1);
            case 1: return state.tables.leastValue(side);
            case 2: return state.tables.greatestValue(side);
            default: return state.tables.brokenCells(side);
        }
    }

    public double mean(int side) throws IndexOutOfBoundsException {
        requireIndex(isSide(side));
        int values = state.tables.rowsOf(side) - state.tables.brokenCells(side);
        if (values == 0) {
            return -1.0;
        }
        return (double) state.tables.valueSum(side, 0, KEYS - 1) / (double) values;
    }

    public float agreement() {
        int all = 0;
        int agreeing = 0;
        for (int key = 0; key < KEYS; key++) {
            if (state.tables.hasRowSomewhere(key)) {
                all++;
                agreeing += state.tables.differ(key) ? 0 : 1;
            }
        }
        return all == 0 ? 1.0f : (float) agreeing / (float) all;
    }

    public int readSum(int reader, int from, int to) throws IndexOutOfBoundsException {
        requireIndex(isReader(reader) && isRange(from, to));
        int side = state.sideOf(reader);
        if (!has(state.up, side)) {
            return DOWN;
        }
        for (int key = from; key <= to; key++) {
            if (state.tables.valueAt(side, key) == BROKEN) {
                return BROKEN;
            }
        }
        return state.tables.valueSum(side, from, to);
    }

    public int written(int key) throws IndexOutOfBoundsException {
        requireIndex(isKey(key));
        return state.written[key];
    }

    public int changed(int slot) throws IndexOutOfBoundsException {
        requireIndex(isSlot(slot));
        return has(savedSlots, slot) ? state.tables.changesAgainst(saved[slot].tables) : NONE;
    }

    public int eventsOf(int kind, int what) throws IllegalArgumentException {
        requireArgument(kind >= 0 && kind < KINDS && (what == 0 || what == 1));
        return what == 0 ? state.events.keptOf(kind) : state.events.latestOf(kind);
    }

    public int write(int chunk) throws IndexOutOfBoundsException {
        requireIndex(isChunk(chunk));
        output.setLength(0);
        output.append(chunk);
        if (has(state.copied, chunk)) {
            output.append(" copied");
        }
        if (has(state.checked, chunk)) {
            output.append(" checked");
        }
        for (int key = firstKey(chunk); key <= lastKey(chunk); key++) {
            if (state.tables.hasRowSomewhere(key)) {
                describeRow(key);
            }
        }
        return output.length();
    }

    public int output(int index) {
        return index >= 0 && index < output.length() ? (int) output.charAt(index) : NONE;
    }

    // ---- undo, saved states

    public int undo() {
        if (changes == 0) {
            return NONE;
        }
        changes--;
        state.become(history[(oldestChange + changes) % KEPT_CHANGES]);
        return changes;
    }

    public void save(int slot) throws IllegalArgumentException {
        requireArgument(isSlot(slot));
        saved[slot].become(state);
        savedSlots |= 1 << slot;
    }

    public void restore(int slot) throws IllegalArgumentException, IllegalStateException {
        requireArgument(isSlot(slot));
        requireState(has(savedSlots, slot));
        state.become(saved[slot]);
        changes = 0;
    }

    // ---- what the methods of the face share

    private static void requireIndex(boolean inRange) {
        if (!inRange) {
            throw new IndexOutOfBoundsException("an index is out of range");
        }
    }

    private static void requireArgument(boolean inRange) {
        if (!inRange) {
            throw new IllegalArgumentException("an argument is out of range");
        }
    }

    private static void requireState(boolean possible) {
        if (!possible) {
            throw new IllegalStateException("this is not possible now");
        }
    }

    private static boolean isKey(int key) {
        return key >= 0 && key < KEYS;
    }

    private static boolean isRange(int from, int to) {
        return isKey(from) && isKey(to) && from <= to;
    }

    private static boolean isChunk(int chunk) {
        return chunk >= 0 && chunk < CHUNKS;
    }

    private static boolean isReader(int reader) {
        return reader >= 0 && reader < READERS;
    }

    private static boolean isSide(int side) {
        return side == OLD || side == NEW;
    }

    private static boolean isSlot(int slot) {
        return slot >= 0 && slot < SLOTS;
    }

    private static boolean isValue(int value) {
        return value >= 0 && value <= TOP_VALUE;
    }

    private static boolean isForm(int form, int amount) {
        switch (form) {
            case SAME: return amount == 0;
            case PLUS: return amount >= 0 && amount <= 999;
            case TIMES: return amount >= 1 && amount <= 9;
            case MIRROR: return amount == 0;
            default: return false;
        }
    }

    private static int firstKey(int chunk) {
        return chunk * CHUNK_KEYS;
    }

    private static int lastKey(int chunk) {
        return chunk * CHUNK_KEYS + CHUNK_KEYS - 1;
    }

    private static boolean has(int set, int member) {
        return ((set >> member) & 1) == 1;
    }

    /** The lowest of the numbers from 0 to size - 1 that is not in the set; NONE without one. */
    private static int lowestMissing(int set, int size) {
        for (int member = 0; member < size; member++) {
            if (!has(set, member)) {
                return member;
            }
        }
        return NONE;
    }

    /** Keeps the state for undo(); to be called ahead of each change. */
    private void remember() {
        if (changes == KEPT_CHANGES) {
            oldestChange = (oldestChange + 1) % KEPT_CHANGES;
            changes--;
        }
        history[(oldestChange + changes) % KEPT_CHANGES].become(state);
        changes++;
    }

    private int attempt(int act, int number) {
        int reason = state.reasonAgainst(act, number);
        accounts[reason]++;
        if (reason == DONE) {
            remember();
            state.perform(act, number);
        }
        return reason;
    }

    private int writeRows(int from, int to, int value, int step) {
        int reason = state.reasonAgainstWriting();
        accounts[reason]++;
        if (reason == DONE) {
            remember();
            for (int key = from; key <= to; key++) {
                state.writeRow(key, (value + (key - from) * step) % VALUES);
            }
        }
        return reason;
    }

    private int removeRows(int from, int to) {
        int reason = state.reasonAgainstRemoving(from, to);
        accounts[reason]++;
        if (reason == DONE) {
            remember();
            for (int key = from; key <= to; key++) {
                if (state.leadsRow(key)) {
                    state.writeRow(key, NONE);
                }
            }
        }
        return reason;
    }

    private void describeRow(int key) {
        output.append(' ');
        output.append(key);
        output.append(':');
        describeValue(state.tables.valueAt(OLD, key));
        output.append('/');
        describeValue(state.tables.valueAt(NEW, key));
        if (state.queue.holds(key)) {
            output.append('!');
        }
    }

    private void describeValue(int value) {
        if (value == NONE) {
            output.append('-');
        } else if (value == BROKEN) {
            output.append('?');
        } else {
            output.append(value);
        }
    }

    /** Everything that undo() and restore() bring back. */
    private static final class State {
        private int phase = BEFORE;
        private int up = ALL_SIDES;
        private int copied;
        private int checked;
        private int switched;
        private final Tables tables = new Tables();
        private final Queue queue = new Queue();
        private final EventLog events = new EventLog();
        private final WriteLog writes = new WriteLog();
        private final int[] written = new int[KEYS];

        void become(State other) {
            phase = other.phase;
            up = other.up;
            copied = other.copied;
            checked = other.checked;
            switched = other.switched;
            tables.become(other.tables);
            queue.become(other.queue);
            events.become(other.events);
            writes.become(other.writes);
            System.arraycopy(other.written, 0, written, 0, KEYS);
        }

        boolean isDouble() {
            return phase == DOUBLE || phase == AFTER;
        }

        int leader() {
            return phase == BEFORE || phase == DOUBLE ? OLD : NEW;
        }

        int sideOf(int reader) {
            return has(switched, reader) ? NEW : OLD;
        }

        boolean leadsRow(int key) {
            return tables.cells[leader()][key] != NONE;
        }

        // -- which reason there is against an act

        int reasonAgainst(int act, int number) {
            switch (act) {
                case BEGIN: return reasonAgainstBegin();
                case COPY: return reasonAgainstCopy();
                case REPAIR: return reasonAgainstRepair();
                case CHECK: return reasonAgainstCheck(number);
                case SWITCH_OVER: return reasonAgainstSwitchOver(number);
                case SWITCH_BACK: return reasonAgainstSwitchBack(number);
                case LEAD: return reasonAgainstLead();
                case GO_BACK_WITH: return reasonAgainstGoBack(true);
                case GO_BACK_WITHOUT: return reasonAgainstGoBack(false);
                case STOP: return reasonAgainstStop();
                default: return reasonAgainstFinish();
            }
        }

        int reasonAgainstWriting() {
            return has(up, leader()) ? DONE : SIDE_IS_DOWN;
        }

        int reasonAgainstRemoving(int from, int to) {
            if (!has(up, leader())) {
                return SIDE_IS_DOWN;
            }
            for (int key = from; key <= to; key++) {
                if (leadsRow(key)) {
                    return DONE;
                }
            }
            return NO_SUCH_ROW;
        }

        private int reasonAgainstBegin() {
            if (phase != BEFORE) {
                return WRONG_PHASE;
            }
            return up == ALL_SIDES ? DONE : SIDE_IS_DOWN;
        }

        private int reasonAgainstCopy() {
            if (phase != DOUBLE) {
                return WRONG_PHASE;
            }
            if (up != ALL_SIDES) {
                return SIDE_IS_DOWN;
            }
            return copied == ALL_CHUNKS ? NOTHING_TO_DO : DONE;
        }

        private int reasonAgainstRepair() {
            if (!isDouble()) {
                return WRONG_PHASE;
            }
            if (up != ALL_SIDES) {
                return SIDE_IS_DOWN;
            }
            return queue.length == 0 ? NOTHING_TO_DO : DONE;
        }

        private int reasonAgainstCheck(int chunk) {
            if (!isDouble()) {
                return WRONG_PHASE;
            }
            if (up != ALL_SIDES) {
                return SIDE_IS_DOWN;
            }
            if (!has(copied, chunk)) {
                return NOT_COPIED;
            }
            return queue.heldOf(chunk) > 0 ? KEY_IS_STALE : DONE;
        }

        private int reasonAgainstSwitchOver(int reader) {
            if (!isDouble()) {
                return WRONG_PHASE;
            }
            if (has(switched, reader)) {
                return READER_IS_SO;
            }
            if (!has(up, NEW)) {
                return SIDE_IS_DOWN;
            }
            if (copied != ALL_CHUNKS) {
                return NOT_COPIED;
            }
            if (queue.length > 0 && leader() == OLD) {
                return KEY_IS_STALE;
            }
            return checked == ALL_CHUNKS ? DONE : NOT_CHECKED;
        }

        private int reasonAgainstSwitchBack(int reader) {
            if (!isDouble()) {
                return WRONG_PHASE;
            }
            if (!has(switched, reader)) {
                return READER_IS_SO;
            }
            if (!has(up, OLD)) {
                return SIDE_IS_DOWN;
            }
            return queue.length > 0 && leader() == NEW ? KEY_IS_STALE : DONE;
        }

        private int reasonAgainstLead() {
            if (phase != DOUBLE) {
                return WRONG_PHASE;
            }
            if (up != ALL_SIDES) {
                return SIDE_IS_DOWN;
            }
            if (copied != ALL_CHUNKS) {
                return NOT_COPIED;
            }
            if (queue.length > 0) {
                return KEY_IS_STALE;
            }
            if (checked != ALL_CHUNKS || tables.someSumsDiffer()) {
                return NOT_CHECKED;
            }
            return switched == ALL_READERS ? DONE : READERS_NOT_SO;
        }

        private int reasonAgainstGoBack(boolean with) {
            if (phase != AFTER) {
                return WRONG_PHASE;
            }
            if (up != ALL_SIDES) {
                return SIDE_IS_DOWN;
            }
            return with && queue.length > 0 ? KEY_IS_STALE : DONE;
        }

        private int reasonAgainstStop() {
            if (phase != DOUBLE) {
                return WRONG_PHASE;
            }
            return switched == 0 ? DONE : READERS_NOT_SO;
        }

        private int reasonAgainstFinish() {
            if (phase != AFTER) {
                return WRONG_PHASE;
            }
            if (switched != ALL_READERS) {
                return READERS_NOT_SO;
            }
            return has(up, NEW) ? DONE : SIDE_IS_DOWN;
        }

        // -- which act comes next

        int nextAct() {
            switch (phase) {
                case BEFORE: return BEGIN;
                case DOUBLE: return nextActOfDouble();
                case AFTER: return queue.length > 0 ? REPAIR : FINISH;
                default: return NONE;
            }
        }

        private int nextActOfDouble() {
            if (queue.length > 0) {
                return REPAIR;
            }
            if (copied != ALL_CHUNKS) {
                return COPY;
            }
            if (checked != ALL_CHUNKS) {
                return CHECK;
            }
            return switched != ALL_READERS ? SWITCH_OVER : LEAD;
        }

        /** The number that next() tells with its act. */
        int numberFor(int act) {
            switch (act) {
                case CHECK: return lowestMissing(checked, CHUNKS);
                case SWITCH_OVER: return lowestMissing(switched, READERS);
                default: return 0;
            }
        }

        // -- what acts do; none of these asks whether the act may be done

        void perform(int act, int number) {
            switch (act) {
                case BEGIN: enter(DOUBLE); break;
                case COPY: copyLowest(number); break;
                case REPAIR: repairFirst(number); break;
                case CHECK: compareSums(number); break;
                case SWITCH_OVER: turnToNew(number); break;
                case SWITCH_BACK: turnToOld(number); break;
                case LEAD: letNewLead(); break;
                case GO_BACK_WITH: letOldLead(); break;
                case GO_BACK_WITHOUT: forgetSinceLead(); letOldLead(); break;
                case STOP: tables.clear(NEW); forgetProgress(); enter(BEFORE); break;
                default: tables.clear(OLD); forgetProgress(); enter(OVER); break;
            }
        }

        /** Writes the row in the table that leads, and in the other one if that follows; NONE removes it. */
        void writeRow(int key, int value) {
            int leader = leader();
            if (phase == AFTER) {
                writes.add(key, value, tables.valueAt(NEW, key));
            }
            tables.store(leader, key, value);
            written[key]++;
            events.add(ROW_WRITTEN, key);
            if (!isDouble()) {
                return;
            }
            if (has(up, 1 - leader)) {
                makeSame(key);
            } else {
                markStale(key);
            }
        }

        private void makeSame(int key) {
            int leader = leader();
            int value = tables.valueAt(leader, key);
            tables.store(1 - leader, key, value == BROKEN ? 0 : value);
            queue.drop(key);
        }

        private void markStale(int key) {
            if (!queue.holds(key)) {
                queue.add(key);
                checked &= ~(1 << (key / CHUNK_KEYS));
                events.add(BECAME_STALE, key);
            }
        }

        private void enter(int newPhase) {
            phase = newPhase;
            events.add(NEW_PHASE, newPhase);
        }

        private void copyLowest(int most) {
            int left = most;
            for (int chunk = 0; chunk < CHUNKS && left > 0; chunk++) {
                if (has(copied, chunk)) {
                    continue;
                }
                for (int key = firstKey(chunk); key <= lastKey(chunk); key++) {
                    makeSame(key);
                }
                copied |= 1 << chunk;
                checked &= ~(1 << chunk);
                events.add(CHUNK_COPIED, chunk);
                left--;
            }
        }

        private void repairFirst(int most) {
            for (int i = 0; i < most && queue.length > 0; i++) {
                int key = queue.keys[0];
                makeSame(key);
                events.add(KEY_REPAIRED, key);
            }
        }

        private void compareSums(int chunk) {
            if (tables.sumOf(OLD, chunk) == tables.sumOf(NEW, chunk)) {
                checked |= 1 << chunk;
                events.add(CHUNK_AGREES, chunk);
                return;
            }
            checked &= ~(1 << chunk);
            events.add(CHUNK_DIFFERS, chunk);
            int key = tables.firstDifference(chunk);
            if (key != NONE) {
                markStale(key);
            }
        }

        private void turnToNew(int reader) {
            switched |= 1 << reader;
            events.add(READER_SWITCHED, reader);
        }

        private void turnToOld(int reader) {
            switched &= ~(1 << reader);
            events.add(READER_BACK, reader);
        }

        private void letNewLead() {
            tables.keepAside();
            writes.clear();
            enter(AFTER);
        }

        private void letOldLead() {
            checked = 0;
            enter(DOUBLE);
        }

        private void forgetSinceLead() {
            tables.takeBack();
            queue.clear();
        }

        private void forgetProgress() {
            queue.clear();
            copied = 0;
            checked = 0;
        }
    }

    /** Both tables with the FORM of the new one, and the tables that lead() keeps aside. */
    private static final class Tables {
        private int form = SAME;
        private int amount;
        private final int[][] cells = new int[SIDES][KEYS];
        private final int[][] aside = new int[SIDES][KEYS];

        Tables() {
            for (int side = 0; side < SIDES; side++) {
                for (int key = 0; key < KEYS; key++) {
                    cells[side][key] = NONE;
                    aside[side][key] = NONE;
                }
            }
        }

        void become(Tables other) {
            form = other.form;
            amount = other.amount;
            copyCells(other.cells, cells);
            copyCells(other.aside, aside);
        }

        void keepAside() {
            copyCells(cells, aside);
        }

        void takeBack() {
            copyCells(aside, cells);
        }

        void clear(int side) {
            for (int key = 0; key < KEYS; key++) {
                cells[side][key] = NONE;
            }
        }

        private static void copyCells(int[][] source, int[][] target) {
            for (int side = 0; side < SIDES; side++) {
                System.arraycopy(source[side], 0, target[side], 0, KEYS);
            }
        }

        /** Stores a value in the form of the side; NONE removes the row. */
        void store(int side, int key, int value) {
            cells[side][key] = value == NONE || side == OLD ? value : cellOf(value);
        }

        private int cellOf(int value) {
            switch (form) {
                case PLUS: return value + amount;
                case TIMES: return value * amount;
                case MIRROR: return TOP_VALUE - value;
                default: return value;
            }
        }

        /** The value of a row: NONE without a row, BROKEN for a broken cell. */
        int valueAt(int side, int key) {
            int cell = cells[side][key];
            if (cell == NONE || side == OLD) {
                return cell;
            }
            int value = cell;
            if (form == PLUS) {
                value = cell - amount;
            } else if (form == TIMES) {
                value = amount > 0 && cell % amount == 0 ? cell / amount : BROKEN;
            } else if (form == MIRROR) {
                value = TOP_VALUE - cell;
            }
            return value >= 0 && value <= TOP_VALUE ? value : BROKEN;
        }

        boolean hasRowSomewhere(int key) {
            return cells[OLD][key] != NONE || cells[NEW][key] != NONE;
        }

        boolean differ(int key) {
            int newValue = valueAt(NEW, key);
            return newValue == BROKEN || newValue != valueAt(OLD, key);
        }

        int firstDifference(int chunk) {
            for (int key = firstKey(chunk); key <= lastKey(chunk); key++) {
                if (differ(key)) {
                    return key;
                }
            }
            return NONE;
        }

        int sumOf(int side, int chunk) {
            int sum = 0;
            for (int key = firstKey(chunk); key <= lastKey(chunk); key++) {
                int value = valueAt(side, key);
                if (value != NONE) {
                    sum += (key + 1) * ((value == BROKEN ? VALUES : value) + 1);
                }
            }
            return sum;
        }

        boolean someSumsDiffer() {
            for (int chunk = 0; chunk < CHUNKS; chunk++) {
                if (sumOf(OLD, chunk) != sumOf(NEW, chunk)) {
                    return true;
                }
            }
            return false;
        }

        int rowsOf(int side) {
            int rows = 0;
            for (int key = 0; key < KEYS; key++) {
                rows += cells[side][key] == NONE ? 0 : 1;
            }
            return rows;
        }

        int brokenCells(int side) {
            int broken = 0;
            for (int key = 0; key < KEYS; key++) {
                broken += valueAt(side, key) == BROKEN ? 1 : 0;
            }
            return broken;
        }

        /** The sum of the values of a range of keys; broken cells have none. */
        int valueSum(int side, int from, int to) {
            int sum = 0;
            for (int key = from; key <= to; key++) {
                // NONE and BROKEN are less than 0
                sum += Math.max(valueAt(side, key), 0);
            }
            return sum;
        }

        int leastValue(int side) {
            int least = NONE;
            for (int key = 0; key < KEYS; key++) {
                int value = valueAt(side, key);
                if (value >= 0 && (least == NONE || value < least)) {
                    least = value;
                }
            }
            return least;
        }

        int greatestValue(int side) {
            int greatest = NONE;
            for (int key = 0; key < KEYS; key++) {
                greatest = Math.max(greatest, valueAt(side, key));
            }
            return greatest;
        }

        int changesAgainst(Tables other) {
            int different = 0;
            for (int key = 0; key < KEYS; key++) {
                boolean same = cells[OLD][key] == other.cells[OLD][key] && cells[NEW][key] == other.cells[NEW][key];
                different += same ? 0 : 1;
            }
            return different;
        }
    }

    /** The stale keys, in the order in which they became stale. */
    private static final class Queue {
        private final int[] keys = new int[KEYS];
        private int length;

        void become(Queue other) {
            length = other.length;
            System.arraycopy(other.keys, 0, keys, 0, KEYS);
        }

        void clear() {
            length = 0;
        }

        private int placeOf(int key) {
            for (int i = 0; i < length; i++) {
                if (keys[i] == key) {
                    return i;
                }
            }
            return NONE;
        }

        boolean holds(int key) {
            return placeOf(key) != NONE;
        }

        int heldOf(int chunk) {
            int held = 0;
            for (int i = 0; i < length; i++) {
                held += keys[i] / CHUNK_KEYS == chunk ? 1 : 0;
            }
            return held;
        }

        void add(int key) {
            if (length < KEYS) {
                keys[length] = key;
                length++;
            }
        }

        void drop(int key) {
            int place = placeOf(key);
            if (place != NONE) {
                length--;
                System.arraycopy(keys, place + 1, keys, place, length - place);
            }
        }
    }

    /** The latest events, the earliest first. */
    private static final class EventLog {
        private final int[] kinds = new int[KEPT_EVENTS];
        private final int[] numbers = new int[KEPT_EVENTS];
        private int kept;

        void become(EventLog other) {
            kept = other.kept;
            System.arraycopy(other.kinds, 0, kinds, 0, KEPT_EVENTS);
            System.arraycopy(other.numbers, 0, numbers, 0, KEPT_EVENTS);
        }

        void add(int kind, int number) {
            if (kept == KEPT_EVENTS) {
                kept--;
                System.arraycopy(kinds, 1, kinds, 0, kept);
                System.arraycopy(numbers, 1, numbers, 0, kept);
            }
            kinds[kept] = kind;
            numbers[kept] = number;
            kept++;
        }

        int keptOf(int kind) {
            int found = 0;
            for (int i = 0; i < kept; i++) {
                found += kinds[i] == kind ? 1 : 0;
            }
            return found;
        }

        int latestOf(int kind) {
            for (int i = kept - 1; i >= 0; i--) {
                if (kinds[i] == kind) {
                    return numbers[i];
                }
            }
            return NONE;
        }
    }

    /** The writes since the new table leads, the latest first: key, value, value ahead. */
    private static final class WriteLog {
        private final int[][] facts = new int[WRITE_FACTS][KEPT_WRITES];
        private int all;

        void become(WriteLog other) {
            all = other.all;
            for (int what = 0; what < WRITE_FACTS; what++) {
                System.arraycopy(other.facts[what], 0, facts[what], 0, KEPT_WRITES);
            }
        }

        void clear() {
            all = 0;
        }

        int kept() {
            return Math.min(all, KEPT_WRITES);
        }

        void add(int key, int value, int ahead) {
            for (int what = 0; what < WRITE_FACTS; what++) {
                System.arraycopy(facts[what], 0, facts[what], 1, KEPT_WRITES - 1);
            }
            facts[0][0] = key;
            facts[1][0] = value;
            facts[2][0] = ahead;
            all++;
        }
    }

    /** The words that begin a command, each with its act, how many numbers follow, and the range of the first one. */
    private enum Command {
        PUT_ROW("put", PUT, 2, 0, KEYS - 1),
        REMOVE_ROW("remove", REMOVE, 1, 0, KEYS - 1),
        BEGIN_MOVE("begin", BEGIN, 0, 0, 0),
        COPY_CHUNKS("copy", COPY, 1, 1, MOST_COUNT),
        REPAIR_KEYS("repair", REPAIR, 1, 1, MOST_COUNT),
        CHECK_CHUNK("check", CHECK, 1, 0, CHUNKS - 1),
        SWITCH_READER("switch", SWITCH_OVER, 1, 0, READERS - 1),
        READER_TO_OLD("back", SWITCH_BACK, 1, 0, READERS - 1),
        LET_LEAD("lead", LEAD, 0, 0, 0),
        RETURN_TO_OLD("return", GO_BACK_WITH, 0, 0, 0),
        STOP_MOVE("stop", STOP, 0, 0, 0),
        FINISH_MOVE("finish", FINISH, 0, 0, 0);

        private final String word;
        private final int act;
        private final int numbers;
        private final int least;
        private final int greatest;

        Command(String word, int act, int numbers, int least, int greatest) {
            this.word = word;
            this.act = act;
            this.numbers = numbers;
            this.least = least;
            this.greatest = greatest;
        }
    }

    /** The text buffer, and its parser, which keeps the commands and the error of the latest text. */
    private static final class Script {
        private static final int END = 0;
        private static final int WORD = 1;
        private static final int NUMBER = 2;
        private static final int SEMICOLON = 3;
        private static final int STRAY = 4;
        // Any number that is greater than this is out of every range.
        private static final int ENOUGH = 100000;

        private final char[] text = new char[TEXT_BYTES];
        private int length;
        private final int[] acts = new int[MOST_COMMANDS];
        private final int[] firsts = new int[MOST_COMMANDS];
        private final int[] seconds = new int[MOST_COMMANDS];
        private int commands;
        private int errorCode;
        private int errorPosition = NONE;
        private int kind;
        private int start;
        private int end;

        void parse() {
            commands = 0;
            errorCode = 0;
            errorPosition = NONE;
            end = 0;
            nextToken();
            for (int i = 0; i <= MOST_COMMANDS && errorCode == 0 && kind != END; i++) {
                parseCommand();
            }
        }

        private void parseCommand() {
            Command command = kind == WORD ? commandHere() : null;
            if (command == null) {
                fail(NOT_ALLOWED);
                return;
            }
            if (commands >= MOST_COMMANDS) {
                fail(TOO_MANY_COMMANDS);
                return;
            }
            nextToken();
            int first = command.numbers >= 1 ? parseNumber(command.least, command.greatest) : 0;
            int second = command.numbers >= 2 ? parseNumber(0, TOP_VALUE) : 0;
            int act = command.act;
            if (act == GO_BACK_WITH && kind == WORD && isHere("without")) {
                act = GO_BACK_WITHOUT;
                nextToken();
            }
            if (kind != SEMICOLON) {
                fail(NOT_ALLOWED);
            }
            if (errorCode == 0) {
                keep(act, first, second);
                nextToken();
            }
        }

        private void keep(int act, int first, int second) {
            acts[commands] = act;
            firsts[commands] = first;
            seconds[commands] = second;
            commands++;
        }

        private int parseNumber(int least, int greatest) {
            if (errorCode != 0) {
                return 0;
            }
            if (kind != NUMBER) {
                fail(NOT_ALLOWED);
                return 0;
            }
            int number = numberHere();
            if (number < least || number > greatest) {
                fail(OUT_OF_RANGE);
                return 0;
            }
            nextToken();
            return number;
        }

        /** Only the first error counts: the parser stops there. */
        private void fail(int code) {
            if (errorCode == 0) {
                errorCode = code;
                errorPosition = start;
            }
        }

        private int numberHere() {
            int number = 0;
            for (int i = start; i < end; i++) {
                number = Math.min(number * 10 + text[i] - '0', ENOUGH);
            }
            return number;
        }

        private Command commandHere() {
            for (Command command : COMMANDS) {
                if (isHere(command.word)) {
                    return command;
                }
            }
            return null;
        }

        private boolean isHere(String word) {
            if (end - start != word.length()) {
                return false;
            }
            for (int i = start; i < end; i++) {
                if (text[i] != word.charAt(i - start)) {
                    return false;
                }
            }
            return true;
        }

        private void nextToken() {
            start = end;
            while (start < length && (text[start] == ' ' || text[start] == '\n')) {
                start++;
            }
            end = start;
            kind = start < length ? kindOf(text[start]) : END;
            if (kind == WORD || kind == NUMBER) {
                while (end < length && kindOf(text[end]) == kind) {
                    end++;
                }
            } else if (kind != END) {
                end++;
            }
        }

        private static int kindOf(char sign) {
            if (sign >= 'a' && sign <= 'z') {
                return WORD;
            }
            if (sign >= '0' && sign <= '9') {
                return NUMBER;
            }
            return sign == ';' ? SEMICOLON : STRAY;
        }
    }
}
