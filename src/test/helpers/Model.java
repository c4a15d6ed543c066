import java.util.ArrayList;
import java.util.Arrays;
import java.util.LinkedHashSet;
import java.util.List;
import java.util.Map;
import java.util.TreeMap;
import java.util.TreeSet;
import java.util.regex.Matcher;
import java.util.regex.Pattern;

/**
 * A second way to do what the document says, with no eye on speed: tables as maps, the queue as a
 * set that keeps its order, every change as a whole copy. answer() takes a call by its name.
 */
final class Model {
    private static final class Box {
        int phase;
        int form;
        int amount;
        boolean[] up = {true, true};
        Map<Integer, Integer> old = new TreeMap<>();
        Map<Integer, Integer> fresh = new TreeMap<>();
        Map<Integer, Integer> asideOld = new TreeMap<>();
        Map<Integer, Integer> asideFresh = new TreeMap<>();
        LinkedHashSet<Integer> stale = new LinkedHashSet<>();
        TreeSet<Integer> copied = new TreeSet<>();
        TreeSet<Integer> checked = new TreeSet<>();
        TreeSet<Integer> switched = new TreeSet<>();
        List<int[]> events = new ArrayList<>();
        List<int[]> since = new ArrayList<>();
        int[] written = new int[60];

        Box copy() {
            Box box = new Box();
            box.phase = phase;
            box.form = form;
            box.amount = amount;
            box.up = up.clone();
            box.old = new TreeMap<>(old);
            box.fresh = new TreeMap<>(fresh);
            box.asideOld = new TreeMap<>(asideOld);
            box.asideFresh = new TreeMap<>(asideFresh);
            box.stale = new LinkedHashSet<>(stale);
            box.copied = new TreeSet<>(copied);
            box.checked = new TreeSet<>(checked);
            box.switched = new TreeSet<>(switched);
            box.events = new ArrayList<>(events);
            box.since = new ArrayList<>(since);
            box.written = written.clone();
            return box;
        }
    }

    private Box now = new Box();
    private final List<Box> undos = new ArrayList<>();
    private final Box[] saved = new Box[2];
    private final int[] accounts = new int[10];
    private StringBuilder text = new StringBuilder();
    private int errorCode = 0;
    private int errorPosition = -1;
    private String output = "";

    // ---- what rows are

    private Integer decoded(int key) {
        if (!now.fresh.containsKey(key)) {
            return -1;
        }
        for (int value = 0; value <= 999; value++) {
            if (encoded(value) == now.fresh.get(key)) {
                return value;
            }
        }
        return -3;
    }

    private int encoded(int value) {
        int[] cells = {value, value + now.amount, value * now.amount, 999 - value};
        return cells[now.form];
    }

    private int value(int side, int key) {
        return side == 0 ? now.old.getOrDefault(key, -1) : decoded(key);
    }

    private void set(int side, int key, int value) {
        Map<Integer, Integer> table = side == 0 ? now.old : now.fresh;
        if (value == -1) {
            table.remove(key);
        } else {
            table.put(key, side == 0 ? value : encoded(value));
        }
    }

    private boolean both() {
        return now.phase == 1 || now.phase == 2;
    }

    private int leader() {
        return now.phase < 2 ? 0 : 1;
    }

    private boolean differ(int key) {
        return value(1, key) == -3 || value(0, key) != value(1, key);
    }

    private int sum(int side, int chunk) {
        int sum = 0;
        for (int key = 4 * chunk; key < 4 * chunk + 4; key++) {
            int value = value(side, key);
            sum += value == -1 ? 0 : (key + 1) * ((value == -3 ? 1000 : value) + 1);
        }
        return sum;
    }

    private boolean staleIn(int chunk) {
        return now.stale.stream().anyMatch(key -> key / 4 == chunk);
    }

    private List<Integer> differing() {
        List<Integer> keys = new ArrayList<>();
        for (int key = 0; key < 60; key++) {
            if (differ(key)) {
                keys.add(key);
            }
        }
        return keys;
    }

    // ---- what changes

    private void change() {
        undos.add(now.copy());
        if (undos.size() > 10) {
            undos.remove(0);
        }
    }

    private void event(int kind, int number) {
        now.events.add(new int[] {kind, number});
        if (now.events.size() > 30) {
            now.events.remove(0);
        }
    }

    private void same(int key) {
        int value = value(leader(), key);
        set(1 - leader(), key, value == -3 ? 0 : value);
        now.stale.remove(key);
    }

    private void becomesStale(int key) {
        if (now.stale.add(key)) {
            now.checked.remove(key / 4);
            event(1, key);
        }
    }

    private void row(int key, int value) {
        if (now.phase == 2) {
            now.since.add(0, new int[] {key, value, value(1, key)});
        }
        set(leader(), key, value);
        now.written[key]++;
        event(0, key);
        if (both() && now.up[1 - leader()]) {
            same(key);
        } else if (both()) {
            becomesStale(key);
        }
    }

    private void phase(int phase) {
        now.phase = phase;
        event(8, phase);
    }

    private void forget() {
        now.stale.clear();
        now.copied.clear();
        now.checked.clear();
    }

    // ---- acts

    private static final List<String> ACTS = List.of("begin", "copy", "repair", "check", "switchOver", "switchBack", "lead",
        "goBack 1", "goBack 0", "stop", "finish");

    /** The first reason whose condition holds; conditions come in pairs: the reason, and whether it holds. */
    private static int first(Object... pairs) {
        for (int i = 0; i < pairs.length; i += 2) {
            if ((Boolean) pairs[i + 1]) {
                return (Integer) pairs[i];
            }
        }
        return 0;
    }

    private int reason(String act, int n) {
        boolean down = !now.up[0] || !now.up[1];
        boolean stale = !now.stale.isEmpty();
        boolean uncopied = now.copied.size() < 15;
        boolean unchecked = now.checked.size() < 15;
        boolean sums = false;
        for (int chunk = 0; chunk < 15; chunk++) {
            sums |= sum(0, chunk) != sum(1, chunk);
        }
        switch (act) {
            case "begin": return first(2, now.phase != 0, 1, down);
            case "copy": return first(2, now.phase != 1, 1, down, 9, !uncopied);
            case "repair": return first(2, !both(), 1, down, 9, !stale);
            case "check": return first(2, !both(), 1, down, 3, !now.copied.contains(n), 4, staleIn(n));
            case "switchOver": return first(2, !both(), 5, now.switched.contains(n), 1, !now.up[1], 3, uncopied,
                4, stale && now.phase == 1, 6, unchecked);
            case "switchBack": return first(2, !both(), 5, !now.switched.contains(n), 1, !now.up[0],
                4, stale && now.phase == 2);
            case "lead": return first(2, now.phase != 1, 1, down, 3, uncopied, 4, stale, 6, unchecked || sums,
                7, now.switched.size() < 8);
            case "goBack 1": return first(2, now.phase != 2, 1, down, 4, stale);
            case "goBack 0": return first(2, now.phase != 2, 1, down);
            case "stop": return first(2, now.phase != 1, 7, !now.switched.isEmpty());
            default: return first(2, now.phase != 2, 7, now.switched.size() < 8, 1, !now.up[1]);
        }
    }

    private void perform(String act, int n) {
        switch (act) {
            case "begin": phase(1); break;
            case "copy":
                for (int chunk = 0, left = n; chunk < 15 && left > 0; chunk++) {
                    if (now.copied.add(chunk)) {
                        for (int key = 4 * chunk; key < 4 * chunk + 4; key++) {
                            same(key);
                        }
                        event(2, chunk);
                        left--;
                    }
                }
                break;
            case "repair":
                for (int key : new ArrayList<>(now.stale).subList(0, Math.min(n, now.stale.size()))) {
                    same(key);
                    event(3, key);
                }
                break;
            case "check":
                now.checked.remove(n);
                if (sum(0, n) == sum(1, n)) {
                    now.checked.add(n);
                    event(4, n);
                } else {
                    event(5, n);
                    becomesStale(differing().stream().filter(key -> key / 4 == n).findFirst().get());
                }
                break;
            case "switchOver": now.switched.add(n); event(6, n); break;
            case "switchBack": now.switched.remove(n); event(7, n); break;
            case "lead":
                now.asideOld = new TreeMap<>(now.old);
                now.asideFresh = new TreeMap<>(now.fresh);
                now.since.clear();
                phase(2);
                break;
            case "goBack 1": now.checked.clear(); phase(1); break;
            case "goBack 0":
                now.old = new TreeMap<>(now.asideOld);
                now.fresh = new TreeMap<>(now.asideFresh);
                now.stale.clear();
                now.checked.clear();
                phase(1);
                break;
            case "stop": now.fresh.clear(); forget(); phase(0); break;
            default: now.old.clear(); forget(); phase(3); break;
        }
    }

    private int act(String act, int n) {
        int reason = reason(act, n);
        accounts[reason]++;
        if (reason == 0) {
            change();
            perform(act, n);
        }
        return reason;
    }

    private int fill(int from, int to, int value, int step) {
        int reason = now.up[leader()] ? 0 : 1;
        accounts[reason]++;
        if (reason == 0) {
            change();
            for (int k = 0; from + k <= to; k++) {
                row(from + k, (value + k * step) % 1000);
            }
        }
        return reason;
    }

    private int clear(int from, int to) {
        List<Integer> keys = new ArrayList<>((leader() == 0 ? now.old : now.fresh).keySet());
        keys.removeIf(key -> key < from || key > to);
        int reason = first(1, !now.up[leader()], 8, keys.isEmpty());
        accounts[reason]++;
        if (reason == 0) {
            change();
            keys.forEach(key -> row(key, -1));
        }
        return reason;
    }

    private int[] next() {
        switch (now.phase) {
            case 0: return new int[] {0, 0};
            case 3: return new int[] {-1, -1};
            case 2: return new int[] {now.stale.isEmpty() ? 10 : 2, 0};
            default: break;
        }
        if (!now.stale.isEmpty()) {
            return new int[] {2, 0};
        }
        if (now.copied.size() < 15) {
            return new int[] {1, 0};
        }
        for (int chunk = 0; chunk < 15; chunk++) {
            if (!now.checked.contains(chunk)) {
                return new int[] {3, chunk};
            }
        }
        for (int reader = 0; reader < 8; reader++) {
            if (!now.switched.contains(reader)) {
                return new int[] {4, reader};
            }
        }
        return new int[] {6, 0};
    }

    private int advance(int most) {
        for (int done = 0; done < most; done++) {
            int[] next = next();
            if (next[0] == -1) {
                return done;
            }
            int number = next[0] == 1 || next[0] == 2 ? 1 : next[1];
            if (act(ACTS.get(next[0]), number) != 0) {
                return done;
            }
        }
        return most;
    }

    // ---- scripts

    private static final Map<String, int[]> RANGES = Map.ofEntries(Map.entry("put", new int[] {0, 59, 0, 999}),
        Map.entry("remove", new int[] {0, 59}), Map.entry("begin", new int[0]), Map.entry("copy", new int[] {1, 15}),
        Map.entry("repair", new int[] {1, 15}), Map.entry("check", new int[] {0, 14}), Map.entry("switch", new int[] {0, 7}),
        Map.entry("back", new int[] {0, 7}), Map.entry("lead", new int[0]), Map.entry("return", new int[0]),
        Map.entry("stop", new int[0]), Map.entry("finish", new int[0]));

    private int runScript() {
        List<String> tokens = new ArrayList<>();
        List<Integer> places = new ArrayList<>();
        Matcher token = Pattern.compile("[a-z]+|[0-9]+|[^ \n]", Pattern.DOTALL).matcher(text);
        while (token.find()) {
            tokens.add(token.group());
            places.add(token.start());
        }
        tokens.add("");
        places.add(text.length());
        text = new StringBuilder();
        List<List<String>> commands = new ArrayList<>();
        int[] wrong = parse(tokens, commands);
        errorCode = wrong[0];
        errorPosition = wrong[0] == 0 ? -1 : places.get(wrong[1]);
        if (errorCode != 0) {
            return -1;
        }
        int done = 0;
        while (done < commands.size() && command(commands.get(done)) == 0) {
            done++;
        }
        return done;
    }

    /** The error code and the index of the token that is wrong. */
    private static int[] parse(List<String> tokens, List<List<String>> commands) {
        int at = 0;
        while (!tokens.get(at).isEmpty()) {
            List<String> command = new ArrayList<>();
            int[] ranges = RANGES.get(tokens.get(at));
            if (ranges == null || commands.size() == 30) {
                return new int[] {ranges == null ? 1 : 3, at};
            }
            command.add(tokens.get(at++));
            for (int i = 0; i < ranges.length; i += 2) {
                if (!tokens.get(at).matches("[0-9]+")) {
                    return new int[] {1, at};
                }
                java.math.BigInteger number = new java.math.BigInteger(tokens.get(at));
                if (number.compareTo(java.math.BigInteger.valueOf(ranges[i])) < 0
                    || number.compareTo(java.math.BigInteger.valueOf(ranges[i + 1])) > 0) {
                    return new int[] {2, at};
                }
                command.add(number.toString());
                at++;
            }
            if (command.get(0).equals("return") && tokens.get(at).equals("without")) {
                command.add(tokens.get(at++));
            }
            if (!tokens.get(at).equals(";")) {
                return new int[] {1, at};
            }
            at++;
            commands.add(command);
        }
        return new int[] {0, 0};
    }

    private int command(List<String> words) {
        String word = words.get(0);
        int n = words.size() > 1 && !word.equals("return") ? Integer.parseInt(words.get(1)) : 0;
        switch (word) {
            case "put": return fill(n, n, Integer.parseInt(words.get(2)), 0);
            case "remove": return clear(n, n);
            case "switch": return act("switchOver", n);
            case "back": return act("switchBack", n);
            case "return": return act(words.size() > 1 ? "goBack 0" : "goBack 1", 0);
            default: return act(word, n);
        }
    }

    // ---- the face

    private static final class Thrown extends RuntimeException {
        private static final long serialVersionUID = 1;

        Thrown(String name) {
            super("throws." + name);
        }
    }

    private static void index(boolean right) {
        if (!right) {
            throw new Thrown("IndexOutOfBoundsException");
        }
    }

    private static void argument(boolean right) {
        if (!right) {
            throw new Thrown("IllegalArgumentException");
        }
    }

    private static void state(boolean right) {
        if (!right) {
            throw new Thrown("IllegalStateException");
        }
    }

    private static boolean in(int number, int least, int greatest) {
        return number >= least && number <= greatest;
    }

    String answer(String name, int[] a) {
        try {
            return answerOf(name, a[0], a[1], a[2], a[3]);
        } catch (Thrown thrown) {
            return thrown.getMessage();
        }
    }

    private String answerOf(String name, int a, int b, int c, int d) {
        switch (name) {
            case "appendText":
                state(text.length() + 4 <= 600);
                for (int i = 3; i >= 0; i--) {
                    text.append((char) (a >> 8 * i & 0xff));
                }
                return "" + text.length();
            case "truncateText":
                argument(in(a, 0, text.length()));
                text.setLength(a);
                return "" + a;
            case "runScript": return "" + runScript();
            case "errorCode": return "" + errorCode;
            case "errorPosition": return "" + errorPosition;
            case "setForm":
                argument(in(a, 0, 3) && in(b, a == 2 ? 1 : 0, a == 1 ? 999 : a == 2 ? 9 : 0));
                state(now.phase == 0);
                change();
                now.form = a;
                now.amount = b;
                return "";
            case "setUp":
                index(in(a, 0, 1));
                change();
                boolean before = now.up[a];
                now.up[a] = b % 2 == 0;
                return "" + before;
            case "damage":
                index(in(a, 0, 59));
                argument(in(b, -1, 9999));
                state(now.phase != 0);
                change();
                Integer cell = b == -1 ? now.fresh.remove(a) : now.fresh.put(a, b);
                return "" + (cell == null ? -1 : cell);
            case "put":
                index(in(a, 0, 59));
                argument(in(b, 0, 999));
                return "" + fill(a, a, b, 0);
            case "remove": index(in(a, 0, 59)); return "" + clear(a, a);
            case "copy": case "repair": argument(in(a, 1, 15)); return "" + act(name, a);
            case "check": index(in(a, 0, 14)); return "" + act(name, a);
            case "switchOver": case "switchBack": index(in(a, 0, 7)); return "" + act(name, a);
            case "begin": case "lead": case "stop": case "finish": return "" + act(name, 0);
            case "goBack": return "" + act(a % 2 == 0 ? "goBack 1" : "goBack 0", 0);
            case "fill":
                index(in(a, 0, 59) && in(b, a, 59));
                argument(in(c, 0, 999) && in(d, 0, 999));
                return "" + fill(a, b, c, d);
            case "clearRange": index(in(a, 0, 59) && in(b, a, 59)); return "" + clear(a, b);
            case "why":
                argument(in(a, 0, 10) && (a != 3 || in(b, 0, 14)) && (a != 4 && a != 5 || in(b, 0, 7)));
                return "" + reason(ACTS.get(a), b);
            case "next": argument(in(a, 0, 1)); return "" + next()[a];
            case "advance": argument(in(a, 1, 60)); return "" + advance(a);
            case "undo":
                if (undos.isEmpty()) {
                    return "-1";
                }
                now = undos.remove(undos.size() - 1);
                return "" + undos.size();
            case "save": argument(in(a, 0, 1)); saved[a] = now.copy(); return "";
            case "restore":
                argument(in(a, 0, 1));
                state(saved[a] != null);
                now = saved[a].copy();
                undos.clear();
                return "";
            default: return look(name, a, b, c);
        }
    }

    private String look(String name, int a, int b, int c) {
        switch (name) {
            case "count":
                argument(in(a, 0, 14));
                int[] counts = {now.phase, now.form, now.amount, now.old.size(), now.fresh.size(), now.copied.size(),
                    now.checked.size(), now.stale.size(), now.switched.size(), now.phase == 2 ? now.since.size() : 0,
                    now.events.size(), undos.size(), now.up[0] ? 1 : 0, now.up[1] ? 1 : 0, leader()};
                return "" + counts[a];
            case "stored":
                index(in(a, 0, 1) && in(b, 0, 59));
                return "" + (a == 0 ? now.old : now.fresh).getOrDefault(b, -1);
            case "read":
                index(in(a, 0, 7) && in(b, 0, 59));
                return "" + read(a, b);
            case "isSwitched": index(in(a, 0, 7)); return "" + now.switched.contains(a);
            case "chunk":
                index(in(a, 0, 14));
                argument(in(b, 0, 5));
                int first = both() ? differing().stream().filter(key -> key / 4 == a).findFirst().orElse(-1) : -1;
                int[] facts = {now.copied.contains(a) ? 1 : 0, now.checked.contains(a) ? 1 : 0, sum(0, a), sum(1, a),
                    (int) now.stale.stream().filter(key -> key / 4 == a).count(), first};
                return "" + facts[b];
            case "stale":
                index(a >= 0);
                return "" + (a < now.stale.size() ? new ArrayList<>(now.stale).get(a) : -1);
            case "brokenPromise":
                return "" + (both() ? differing().stream().filter(key -> !now.stale.contains(key))
                    .filter(key -> now.copied.contains(key / 4)).findFirst().orElse(-1) : -1);
            case "troubledReaders":
                int troubled = 0;
                for (int reader = 0; reader < 8; reader++) {
                    for (int key = 0; key < 60; key++) {
                        troubled |= read(reader, key) < -1 ? 1 << reader : 0;
                    }
                }
                return "" + troubled;
            case "event":
                index(in(a, 0, now.events.size() - 1));
                argument(in(b, 0, 1));
                return "" + now.events.get(a)[b];
            case "since":
                index(a >= 0);
                argument(in(b, 0, 2));
                return "" + (now.phase == 2 && a < Math.min(20, now.since.size()) ? now.since.get(a)[b] : -1);
            case "account": argument(in(a, 0, 9)); return "" + accounts[a];
            case "differing":
                index(a >= 0);
                return "" + (both() && a < differing().size() ? differing().get(a) : -1);
            case "written": index(in(a, 0, 59)); return "" + now.written[a];
            case "output": return "" + (in(a, 0, output.length() - 1) ? (int) output.charAt(a) : -1);
            default: return lookAtTables(name, a, b, c);
        }
    }

    private int read(int reader, int key) {
        int side = now.switched.contains(reader) ? 1 : 0;
        return now.up[side] ? value(side, key) : -2;
    }

    private List<Integer> values(int side) {
        List<Integer> values = new ArrayList<>();
        for (int key = 0; key < 60; key++) {
            if (value(side, key) >= 0) {
                values.add(value(side, key));
            }
        }
        return values;
    }

    private String lookAtTables(String name, int a, int b, int c) {
        switch (name) {
            case "lookup":
                index(in(a, 0, 1));
                argument(in(b, 0, 999));
                for (int key = 0; key < 60; key++) {
                    if (value(a, key) == b) {
                        return "" + key;
                    }
                }
                return "-1";
            case "total":
                index(in(a, 0, 1));
                argument(in(b, 0, 3));
                int[] totals = {values(a).stream().mapToInt(v -> v).sum(), values(a).stream().mapToInt(v -> v).min().orElse(-1),
                    values(a).stream().mapToInt(v -> v).max().orElse(-1),
                    a == 0 ? 0 : now.fresh.size() - values(1).size()};
                return "" + totals[b];
            case "mean":
                index(in(a, 0, 1));
                return "" + values(a).stream().mapToInt(v -> v).average().orElse(-1.0);
            case "agreement":
                TreeSet<Integer> keys = new TreeSet<>(now.old.keySet());
                keys.addAll(now.fresh.keySet());
                long same = keys.stream().filter(key -> !differ(key)).count();
                return "" + (keys.isEmpty() ? 1.0f : (float) same / (float) keys.size());
            case "readSum":
                index(in(a, 0, 7) && in(b, 0, 59) && in(c, b, 59));
                return "" + readSum(a, b, c);
            case "changed":
                index(in(a, 0, 1));
                if (saved[a] == null) {
                    return "-1";
                }
                int changed = 0;
                for (int key = 0; key < 60; key++) {
                    changed += now.old.getOrDefault(key, -1).equals(saved[a].old.getOrDefault(key, -1))
                        && now.fresh.getOrDefault(key, -1).equals(saved[a].fresh.getOrDefault(key, -1)) ? 0 : 1;
                }
                return "" + changed;
            case "eventsOf":
                argument(in(a, 0, 8) && in(b, 0, 1));
                int[] found = {0, -1};
                for (int[] event : now.events) {
                    found = event[0] == a ? new int[] {found[0] + 1, event[1]} : found;
                }
                return "" + found[b];
            case "write": index(in(a, 0, 14)); output = written(a); return "" + output.length();
            default: throw new IllegalArgumentException(name);
        }
    }

    private int readSum(int reader, int from, int to) {
        int sum = 0;
        for (int key = from; key <= to; key++) {
            int value = read(reader, key);
            if (value < -1) {
                return value;
            }
            sum += Math.max(value, 0);
        }
        return sum;
    }

    private String written(int chunk) {
        StringBuilder line = new StringBuilder("" + chunk);
        line.append(now.copied.contains(chunk) ? " copied" : "").append(now.checked.contains(chunk) ? " checked" : "");
        for (int key = 4 * chunk; key < 4 * chunk + 4; key++) {
            String values = value(0, key) + "/" + value(1, key);
            if (!values.equals("-1/-1")) {
                line.append(" " + key + ":" + values.replace("-1", "-").replace("-3", "?"));
                line.append(now.stale.contains(key) ? "!" : "");
            }
        }
        return line.toString();
    }

    @Override
    public String toString() {
        return "phase " + now.phase + " up " + Arrays.toString(now.up) + " stale " + now.stale;
    }
}
