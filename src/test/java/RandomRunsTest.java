import java.util.ArrayList;
import java.util.List;
import java.util.Random;

/** Promises 1 to 51: long runs of calls by chance, each run the same every time, compared with the model. */
public final class RandomRunsTest {
    private static final int RUNS = 400;
    private static final int CALLS = 512;
    private static final String[] CHANGES = {"put", "put", "put", "remove", "fill", "clearRange", "begin", "copy", "copy",
        "repair", "repair", "check", "check", "check", "switchOver", "switchOver", "switchBack", "lead", "goBack", "stop",
        "finish", "advance", "advance", "setForm", "setUp", "setUp", "damage", "damage", "undo", "undo", "save", "restore",
        "script", "script"};
    private static final String[] LOOKS = {"count", "stored", "read", "isSwitched", "chunk", "stale", "brokenPromise",
        "troubledReaders", "event", "since", "account", "why", "next", "differing", "lookup", "total", "mean", "agreement",
        "readSum", "written", "changed", "eventsOf", "write", "output", "errorCode", "errorPosition"};
    private static final String[] WORDS = {"put", "remove", "begin", "copy", "repair", "check", "switch", "back", "lead",
        "return", "stop", "finish"};
    private static final int[] ODD = {-1, -2, -3, 8, 9, 15, 16, 60, 61, 999, 1000, 9999, 10000, Integer.MIN_VALUE,
        Integer.MAX_VALUE};

    private final Random random;
    private final TableMove move = new TableMove();
    private final Model model = new Model();
    private final List<String> calls = new ArrayList<>();
    /** How often sides go down, so that some runs reach the later phases. */
    private final int trouble;

    private RandomRunsTest(int seed) {
        random = new Random(seed);
        trouble = random.nextInt(4);
    }

    public static void main(String[] args) {
        for (int seed = 0; seed < RUNS; seed++) {
            if (!new RandomRunsTest(seed).run(seed)) {
                break;
            }
        }
        Due.end();
    }

    private boolean run(int seed) {
        boolean right = seed % 2 == 0 || toTheLead();
        while (calls.size() < CALLS && right) {
            if (random.nextInt(3) > 0) {
                String name = CHANGES[random.nextInt(CHANGES.length)];
                right = name.equals("script") ? script() : mayCome(name) ? compare(name, arguments(name)) : right;
            } else {
                String name = LOOKS[random.nextInt(LOOKS.length)];
                right = compare(name, arguments(name));
            }
        }
        if (!right) {
            System.out.println("run " + seed + ": " + calls + " " + model);
        }
        return right;
    }

    /** Half of the runs begin where the new table has just begun to lead. */
    private boolean toTheLead() {
        boolean right = compare("setForm", new int[] {2, 3, 0, 0}) && compare("fill", new int[] {0, 50, 1, 2});
        return right && compare("advance", new int[] {40, 0, 0, 0}) && compare("save", new int[4]);
    }

    /** Some calls come seldom, or a run would never get far, or stay in the phase 3 for ever. */
    private boolean mayCome(String name) {
        String phase = model.answer("count", new int[4]);
        switch (name) {
            case "stop": return random.nextInt(3) == 0;
            case "goBack": return !phase.equals("2") || random.nextInt(3) == 0;
            case "finish": return random.nextInt(20) == 0;
            case "advance": return !phase.equals("2") || random.nextInt(20) == 0;
            case "save": return !phase.equals("3");
            case "restore": return phase.equals("3") || random.nextInt(4) == 0;
            case "damage": return random.nextInt(4) < trouble;
            case "setUp": return trouble > 0;
            default: return true;
        }
    }

    private int some(int... ends) {
        if (random.nextInt(40) == 0) {
            return ODD[random.nextInt(ODD.length)];
        }
        return ends[0] + random.nextInt(ends[1] - ends[0] + 1);
    }

    private int[] arguments(String name) {
        switch (name) {
            case "put": return new int[] {some(0, 59), random.nextInt(3) == 0 ? some(0, 999) : some(0, 3), 0, 0};
            case "stored": case "lookup": return new int[] {some(0, 1), name.equals("stored") ? some(0, 59) : some(0, 5), 0, 0};
            case "fill": case "clearRange": return range(some(0, 59), some(0, 999), some(0, 999));
            case "damage": return new int[] {some(0, 59), random.nextBoolean() ? some(0, 9999) : some(-1, 3), 0, 0};
            case "setForm":
                int form = some(0, 3);
                return new int[] {form, form == 1 ? some(0, 999) : form == 2 ? some(1, 9) : some(0, 0), 0, 0};
            case "setUp": return new int[] {some(0, 1), random.nextInt(6) == 0 ? 1 : 0, 0, 0};
            case "copy": case "repair": return new int[] {some(1, 15), 0, 0, 0};
            case "advance": return new int[] {random.nextInt(3) == 0 ? some(1, 60) : some(1, 4), 0, 0, 0};
            case "read": return new int[] {some(0, 7), some(0, 59), 0, 0};
            case "readSum":
                int[] range = range(some(0, 59), 0, 0);
                return new int[] {some(0, 7), range[0], range[1], 0};
            case "chunk": return new int[] {some(0, 14), some(0, 5), 0, 0};
            case "stale": case "differing": return new int[] {some(0, 4), 0, 0, 0};
            case "event": return new int[] {some(0, 29), some(0, 1), 0, 0};
            case "since": return new int[] {some(0, 19), some(0, 2), 0, 0};
            case "why": return new int[] {some(0, 10), some(0, 7), 0, 0};
            case "total": return new int[] {some(0, 1), some(0, 3), 0, 0};
            case "eventsOf": return new int[] {some(0, 8), some(0, 1), 0, 0};
            case "output": return new int[] {some(0, 40), 0, 0, 0};
            default: return new int[] {some(0, most(name)), 0, 0, 0};
        }
    }

    private static int most(String name) {
        switch (name) {
            case "check": case "write": case "count": return 14;
            case "switchOver": case "switchBack": case "isSwitched": return 7;
            case "remove": case "written": return 59;
            case "account": return 9;
            default: return 1;
        }
    }

    private int[] range(int from, int value, int step) {
        int to = random.nextInt(20) == 0 ? some(0, 59) : Math.min(Math.max(from, -5), 1000) + random.nextInt(6);
        return new int[] {from, to, value, step};
    }

    private boolean script() {
        StringBuilder text = new StringBuilder();
        int commands = random.nextInt(60) == 0 ? 33 : random.nextInt(5);
        for (int i = 0; i < commands; i++) {
            String word = random.nextInt(3) == 0 ? "put" : WORDS[random.nextInt(WORDS.length)];
            text.append(word);
            switch (word) {
                case "put": text.append(' ').append(some(0, 59)).append(' ').append(some(0, 5)); break;
                case "remove": text.append(' ').append(some(0, 59)); break;
                case "copy": case "repair": text.append(' ').append(some(1, 15)); break;
                case "check": text.append(' ').append(some(0, 14)); break;
                case "switch": case "back": text.append(" 00").append(some(0, 7)); break;
                case "return": text.append(random.nextBoolean() ? " without" : ""); break;
                default: break;
            }
            text.append(random.nextInt(5) == 0 ? "\n;  " : ";");
        }
        if (random.nextInt(8) == 0 && text.length() > 0) {
            text.setCharAt(random.nextInt(text.length()), "0a;? \n\u00e9".charAt(random.nextInt(7)));
        }
        return typeAndRun(text.toString());
    }

    private boolean typeAndRun(String text) {
        boolean right = compare("truncateText", new int[] {0, 0, 0, 0});
        for (int i = 0; i < text.length() && right; i += 4) {
            int four = 0;
            for (int j = i; j < i + 4; j++) {
                four = four << 8 | (j < text.length() ? text.charAt(j) : ' ');
            }
            right = compare("appendText", new int[] {four, 0, 0, 0});
        }
        right = right && compare("truncateText", new int[] {text.length() - random.nextInt(20) / 19, 0, 0, 0});
        right = right && compare("runScript", new int[] {0, 0, 0, 0});
        right = right && compare("errorCode", new int[] {0, 0, 0, 0});
        return right && compare("errorPosition", new int[] {0, 0, 0, 0});
    }

    private boolean compare(String name, int[] arguments) {
        if (calls.size() == CALLS) {
            // what later calls answer is free
            return true;
        }
        String call = name + java.util.Arrays.toString(arguments);
        calls.add(call);
        String want = model.answer(name, arguments);
        String got = answer(name, arguments);
        Due.text(call, got, want);
        return got.equals(want);
    }

    private String answer(String name, int[] arguments) {
        try {
            return Calls.answer(move, name, arguments);
        } catch (RuntimeException thrown) {
            // what the machine throws has names of its own, so it would not pass for what is due
            return "throws." + thrown.getClass().getSimpleName();
        }
    }
}
