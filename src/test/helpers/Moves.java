/** Objects of TableMove that stand where a test needs them, and texts of what they hold. */
final class Moves {
    private Moves() {
    }

    /** Phase 1 with the FORM 1, AMOUNT 100: the rows 0 to 59 have the values 10 * key. */
    static TableMove doubled() {
        TableMove move = new TableMove();
        move.setForm(1, 100);
        move.fill(0, 59, 0, 10);
        move.begin();
        return move;
    }

    /** As doubled(), all chunks copied. */
    static TableMove copied() {
        TableMove move = doubled();
        move.copy(15);
        return move;
    }

    /** As copied(), all chunks checked. */
    static TableMove checked() {
        TableMove move = copied();
        for (int chunk = 0; chunk < 15; chunk++) {
            move.check(chunk);
        }
        return move;
    }

    /** As checked(), all readers switched. */
    static TableMove switched() {
        TableMove move = checked();
        for (int reader = 0; reader < 8; reader++) {
            move.switchOver(reader);
        }
        return move;
    }

    /** As switched(), in the phase 2. */
    static TableMove after() {
        TableMove move = switched();
        move.lead();
        return move;
    }

    /** As after(), in the phase 3. */
    static TableMove over() {
        TableMove move = after();
        move.finish();
        return move;
    }

    /** Replaces the text buffer by the text, and runs it. */
    static int run(TableMove move, String text) {
        type(move, text);
        return move.runScript();
    }

    static void type(TableMove move, String text) {
        move.truncateText(0);
        for (int i = 0; i < text.length(); i += 4) {
            int four = 0;
            for (int j = i; j < i + 4; j++) {
                four = four << 8 | (j < text.length() ? text.charAt(j) : 0);
            }
            move.appendText(four);
        }
        move.truncateText(text.length());
    }

    static String outputOf(TableMove move) {
        StringBuilder text = new StringBuilder();
        for (int i = 0; move.output(i) != TableMove.NONE; i++) {
            text.append((char) move.output(i));
        }
        return text.toString();
    }

    static String written(TableMove move, int chunk) {
        int length = move.write(chunk);
        String text = outputOf(move);
        return length == text.length() ? text : "length " + length + " of " + text;
    }

    static String events(TableMove move) {
        StringBuilder text = new StringBuilder();
        for (int i = 0; i < move.count(10); i++) {
            text.append(i == 0 ? "" : " ").append(move.event(i, 0)).append(':').append(move.event(i, 1));
        }
        return text.toString();
    }

    static String queue(TableMove move) {
        StringBuilder text = new StringBuilder();
        for (int i = 0; move.stale(i) != TableMove.NONE; i++) {
            text.append(i == 0 ? "" : " ").append(move.stale(i));
        }
        return text.toString();
    }

    static String since(TableMove move) {
        StringBuilder text = new StringBuilder();
        for (int i = 0; move.since(i, 0) != TableMove.NONE; i++) {
            text.append(i == 0 ? "" : " ").append(move.since(i, 0)).append('=');
            text.append(move.since(i, 1)).append('<').append(move.since(i, 2));
        }
        return text.toString();
    }
}
