import java.util.ArrayList;
import java.util.Arrays;
import java.util.List;
import java.util.Map;
import java.util.stream.IntStream;

/**
 * The part EXCEPTIONS of the document for every method that throws one: parameters just inside and just
 * outside of their ranges and far away, all of them with all others; which exception is thrown if
 * several apply; and that the call that throws changes nothing. This is so in every phase.
 */
public final class RangesTest {
    private static final String FINE = "nothing";
    private static final String INDEX = "IndexOutOfBoundsException";
    private static final String ARGUMENT = "IllegalArgumentException";
    private static final String STATE = "IllegalStateException";
    private static final int MIN = Integer.MIN_VALUE;
    private static final int MAX = Integer.MAX_VALUE;
    /** So many calls are done with one object, so that it stays far below 512. */
    private static final int BATCH = 120;

    private interface Rule {
        String due(Stories.Story story, int[] a);
    }

    private record Range(String method, Rule rule, int[][] values) {
    }

    private record Thrown(String method, int[] arguments, String due) {
    }

    private static final List<Range> RANGES = new ArrayList<>();

    public static void main(String[] args) {
        settingsAndTexts();
        looks();
        acts();
        moreLooks();
        savedStates();
        for (Stories.Story story : Stories.all()) {
            inRange(story);
            outOfRange(story);
        }
        Due.end();
    }

    private static void range(String method, Rule rule, int[]... values) {
        RANGES.add(new Range(method, rule, values));
    }

    /** Just inside, just outside, and far away. */
    private static int[] edges(int least, int greatest) {
        return new int[] {MIN, least - 1, least, greatest, greatest + 1, MAX};
    }

    private static String first(String... due) {
        return Arrays.stream(due).filter(name -> !name.equals(FINE)).findFirst().orElse(FINE);
    }

    private static String index(boolean right) {
        return right ? FINE : INDEX;
    }

    private static String argument(boolean right) {
        return right ? FINE : ARGUMENT;
    }

    private static String state(boolean right) {
        return right ? FINE : STATE;
    }

    private static boolean in(int number, int least, int greatest) {
        return number >= least && number <= greatest;
    }

    private static boolean isKey(int key) {
        return in(key, 0, 59);
    }

    private static boolean isValue(int value) {
        return in(value, 0, 999);
    }

    // ---- the promises, one after the other

    private static void settingsAndTexts() {
        range("truncateText", (s, a) -> argument(in(a[0], 0, s.text())), new int[] {MIN, -1, 0, 1, 10, 11, 12, 600, 601, MAX});
        range("setForm", (s, a) -> first(argument(isForm(a[0], a[1])), state(s.phase() == 0)),
            new int[] {MIN, -1, 0, 1, 2, 3, 4, MAX}, new int[] {MIN, -1, 0, 1, 2, 8, 9, 10, 998, 999, 1000, MAX});
        range("setUp", (s, a) -> index(in(a[0], 0, 1)), edges(0, 1), new int[] {0, 1});
        range("damage", (s, a) -> first(index(isKey(a[0])), argument(in(a[1], -1, 9999)), state(s.phase() != 0)),
            edges(0, 59), new int[] {MIN, -3, -2, -1, 0, 9999, 10000, MAX});
    }

    private static boolean isForm(int form, int amount) {
        switch (form) {
            case 0: case 3: return amount == 0;
            case 1: return in(amount, 0, 999);
            case 2: return in(amount, 1, 9);
            default: return false;
        }
    }

    private static void looks() {
        range("count", (s, a) -> argument(in(a[0], 0, 14)), edges(0, 14));
        range("stored", (s, a) -> index(in(a[0], 0, 1) && isKey(a[1])), edges(0, 1), edges(0, 59));
        range("read", (s, a) -> index(in(a[0], 0, 7) && isKey(a[1])), edges(0, 7), edges(0, 59));
        range("isSwitched", (s, a) -> index(in(a[0], 0, 7)), edges(0, 7));
        range("chunk", (s, a) -> first(index(in(a[0], 0, 14)), argument(in(a[1], 0, 5))), edges(0, 14), edges(0, 5));
        range("stale", (s, a) -> index(a[0] >= 0), new int[] {MIN, -1, 0, 59, 60, MAX});
        range("event", (s, a) -> first(index(in(a[0], 0, s.events() - 1)), argument(in(a[1], 0, 1))),
            new int[] {MIN, -1, 0, 1, 20, 21, 22, 28, 29, 30, 31, MAX}, edges(0, 1));
        range("since", (s, a) -> first(index(a[0] >= 0), argument(in(a[1], 0, 2))),
            new int[] {MIN, -1, 0, 19, 20, MAX}, edges(0, 2));
        range("account", (s, a) -> argument(in(a[0], 0, 9)), edges(0, 9));
    }

    private static void acts() {
        range("put", (s, a) -> first(index(isKey(a[0])), argument(isValue(a[1]))), edges(0, 59), edges(0, 999));
        range("remove", (s, a) -> index(isKey(a[0])), edges(0, 59));
        range("copy", (s, a) -> argument(in(a[0], 1, 15)), edges(1, 15));
        range("repair", (s, a) -> argument(in(a[0], 1, 15)), edges(1, 15));
        range("check", (s, a) -> index(in(a[0], 0, 14)), edges(0, 14));
        range("switchOver", (s, a) -> index(in(a[0], 0, 7)), edges(0, 7));
        range("switchBack", (s, a) -> index(in(a[0], 0, 7)), edges(0, 7));
        int[] ends = {MIN, -1, 0, 29, 30, 59, 60, MAX};
        range("fill", (s, a) -> first(index(isKey(a[0]) && in(a[1], a[0], 59)), argument(isValue(a[2]) && isValue(a[3]))),
            ends, ends, new int[] {MIN, -1, 0, 999, 1000}, new int[] {-1, 0, 999, 1000, MAX});
        range("clearRange", (s, a) -> index(isKey(a[0]) && in(a[1], a[0], 59)), ends, ends);
        range("advance", (s, a) -> argument(in(a[0], 1, 60)), edges(1, 60));
    }

    private static void moreLooks() {
        range("why", (s, a) -> argument(in(a[0], 0, 10) && (a[0] != 3 || in(a[1], 0, 14))
                && (a[0] != 4 && a[0] != 5 || in(a[1], 0, 7))),
            new int[] {MIN, -1, 0, 1, 2, 3, 4, 5, 6, 7, 8, 9, 10, 11, MAX}, new int[] {MIN, -1, 0, 7, 8, 14, 15, MAX});
        range("next", (s, a) -> argument(in(a[0], 0, 1)), edges(0, 1));
        range("differing", (s, a) -> index(a[0] >= 0), new int[] {MIN, -1, 0, 59, 60, MAX});
        range("lookup", (s, a) -> first(index(in(a[0], 0, 1)), argument(isValue(a[1]))), edges(0, 1), edges(0, 999));
        range("total", (s, a) -> first(index(in(a[0], 0, 1)), argument(in(a[1], 0, 3))), edges(0, 1), edges(0, 3));
        range("mean", (s, a) -> index(in(a[0], 0, 1)), edges(0, 1));
        int[] ends = {MIN, -1, 0, 29, 30, 59, 60, MAX};
        range("readSum", (s, a) -> index(in(a[0], 0, 7) && isKey(a[1]) && in(a[2], a[1], 59)), edges(0, 7), ends, ends);
        range("written", (s, a) -> index(isKey(a[0])), edges(0, 59));
        range("eventsOf", (s, a) -> argument(in(a[0], 0, 8) && in(a[1], 0, 1)), edges(0, 8), edges(0, 1));
        range("write", (s, a) -> index(in(a[0], 0, 14)), edges(0, 14));
        range("output", (s, a) -> FINE, new int[] {MIN, -1, 0, 599, MAX});
    }

    private static void savedStates() {
        range("changed", (s, a) -> index(in(a[0], 0, 1)), edges(0, 1));
        range("save", (s, a) -> argument(in(a[0], 0, 1)), edges(0, 1));
        range("restore", (s, a) -> first(argument(in(a[0], 0, 1)), state(in(a[0], 0, 1) && s.saved(a[0]))), edges(0, 1));
    }

    // ---- what is asked of each of them

    private static List<int[]> arguments(int[][] values) {
        List<int[]> all = List.of(new int[4]);
        for (int place = 0; place < values.length; place++) {
            List<int[]> more = new ArrayList<>();
            for (int[] ahead : all) {
                for (int value : IntStream.of(values[place]).distinct().toArray()) {
                    int[] next = ahead.clone();
                    next[place] = value;
                    more.add(next);
                }
            }
            all = more;
        }
        return all;
    }

    private static List<Thrown> calls(Stories.Story story, boolean fine) {
        List<Thrown> calls = new ArrayList<>();
        for (Range range : RANGES) {
            for (int[] a : arguments(range.values())) {
                String due = range.rule().due(story, a);
                if (due.equals(FINE) == fine) {
                    calls.add(new Thrown(range.method(), a, due));
                }
            }
        }
        return calls;
    }

    private static void ask(Stories.Story story, TableMove move, Thrown call) {
        String thrown = FINE;
        try {
            Calls.answer(move, call.method(), call.arguments());
        } catch (RuntimeException exception) {
            thrown = exception.getClass().getSimpleName();
        }
        Due.text(story.name() + ": " + call.method() + Arrays.toString(call.arguments()) + " throws", thrown, call.due());
    }

    private static void inRange(Stories.Story story) {
        for (Thrown call : calls(story, true)) {
            ask(story, story.made().get(), call);
        }
    }

    /** None of the calls that throw changes anything, so after many of them everything is as before. */
    private static void outOfRange(Stories.Story story) {
        Map<String, String> before = Seen.all(story.made());
        String accounts = Seen.accounts(story.made().get());
        List<Thrown> calls = calls(story, false);
        for (int from = 0; from < calls.size(); from += BATCH) {
            List<Thrown> some = calls.subList(from, Math.min(from + BATCH, calls.size()));
            TableMove asked = story.made().get();
            some.forEach(call -> ask(story, asked, call));
            String when = story.name() + " after " + some.size() + " calls that throw, from " + some.get(0).method() + " to "
                + some.get(some.size() - 1).method();
            Due.text(when + ": accounts", Seen.accounts(asked), accounts);
            Seen.same(when, Seen.all(Seen.then(story.made(), move -> some.forEach(call -> quietly(move, call)))), before);
        }
    }

    private static void quietly(TableMove move, Thrown call) {
        try {
            Calls.answer(move, call.method(), call.arguments());
        } catch (RuntimeException thrown) {
            // ask() has looked at it
            return;
        }
    }
}
