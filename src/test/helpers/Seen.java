import java.util.LinkedHashMap;
import java.util.Map;
import java.util.function.Consumer;
import java.util.function.Function;
import java.util.function.Supplier;

/**
 * All that can be seen of the object that a story makes. Every view is taken of an object of its own,
 * so that none gets more than the 512 calls for which the document promises anything.
 */
final class Seen {
    private Seen() {
    }

    static Supplier<TableMove> then(Supplier<TableMove> story, Consumer<TableMove> calls) {
        return () -> {
            TableMove move = story.get();
            calls.accept(move);
            return move;
        };
    }

    /** What undo() and restore() bring back. */
    static Map<String, String> state(Supplier<TableMove> story) {
        Map<String, String> seen = new LinkedHashMap<>();
        look(seen, "", story);
        return seen;
    }

    /** What undo() and restore() leave, but for the changes and the accounts. */
    static Map<String, String> apart(Supplier<TableMove> story) {
        Map<String, String> seen = new LinkedHashMap<>();
        seen.put("error", error(story.get()));
        seen.put("output", Moves.outputOf(story.get()));
        seen.put("text", text(story.get()));
        for (int slot = 0; slot < 2; slot++) {
            int at = slot;
            if (story.get().changed(slot) == TableMove.NONE) {
                seen.put("slot " + slot, "nothing");
            } else {
                look(seen, "slot " + slot + ": ", then(story, move -> move.restore(at)));
            }
        }
        return seen;
    }

    /** All but the accounts. */
    static Map<String, String> all(Supplier<TableMove> story) {
        Map<String, String> seen = state(story);
        seen.putAll(apart(story));
        int changes = story.get().count(11);
        seen.put("changes", "" + changes);
        for (int back = 1; back <= changes; back++) {
            int times = back;
            look(seen, "undone " + back + ": ", then(story, move -> undo(move, times)));
        }
        return seen;
    }

    static String accounts(TableMove move) {
        return list(10, move::account);
    }

    static void same(String when, Map<String, String> got, Map<String, String> want) {
        Due.text(when + ": what is seen", got.keySet().toString(), want.keySet().toString());
        for (Map.Entry<String, String> view : want.entrySet()) {
            Due.text(when + ": " + view.getKey(), got.getOrDefault(view.getKey(), "nothing"), view.getValue());
        }
    }

    private static void undo(TableMove move, int times) {
        for (int i = 0; i < times; i++) {
            move.undo();
        }
    }

    private static void look(Map<String, String> seen, String when, Supplier<TableMove> story) {
        seen.put(when + "progress", progress(story.get()));
        seen.put(when + "tables", tables(story.get()));
        seen.put(when + "events", Moves.events(story.get()) + " since " + Moves.since(story.get()));
        if (story.get().count(0) == 2) {
            seen.put(when + "kept aside", tables(then(story, Seen::wayBack).get()));
        }
    }

    private static void wayBack(TableMove move) {
        move.setUp(0, true);
        move.setUp(1, true);
        move.goBack(false);
    }

    private static String list(int length, Function<Integer, Integer> number) {
        StringBuilder text = new StringBuilder();
        for (int i = 0; i < length; i++) {
            text.append(i == 0 ? "" : " ").append(number.apply(i));
        }
        return text.toString();
    }

    private static String progress(TableMove move) {
        return list(15, what -> what == 11 ? 0 : move.count(what)) + " copied " + list(15, chunk -> move.chunk(chunk, 0))
            + " checked " + list(15, chunk -> move.chunk(chunk, 1))
            + " switched " + list(8, reader -> move.isSwitched(reader) ? 1 : 0) + " queue " + Moves.queue(move);
    }

    private static String tables(TableMove move) {
        return "old " + list(60, key -> move.stored(0, key)) + " new " + list(60, key -> move.stored(1, key))
            + " written " + list(60, move::written);
    }

    private static String error(TableMove move) {
        return move.errorCode() + " at " + move.errorPosition();
    }

    /** The length of the text, and what it does. */
    private static String text(TableMove move) {
        int length = length(move);
        move.truncateText(length);
        return length + " bytes, " + move.runScript() + " done, " + error(move) + ", " + tables(move);
    }

    private static int length(TableMove move) {
        for (int length = 600; length > 596; length--) {
            try {
                return move.truncateText(length);
            } catch (IllegalArgumentException thrown) {
                continue;
            }
        }
        return move.appendText(0) - 4;
    }
}
