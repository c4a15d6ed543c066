import java.nio.file.Files;
import java.nio.file.Path;
import java.util.Set;
import java.util.TreeSet;
import java.util.regex.Matcher;
import java.util.regex.Pattern;

/** The examples of README.md: each call answers what stands behind it, and each act is named. */
public final class ReadmeTest {
    private static final Pattern OBJECT = Pattern.compile(" {4}TableMove move = new TableMove\\(\\);");
    private static final Pattern CALL = Pattern.compile(" {4}move\\.(\\w+)\\(([^)]*)\\);\\s*// ?(.*)|( {4}move.*)");
    private static final Pattern ANSWER = Pattern.compile("(-?\\d+|true|false|\\w+Exception)(:.*)?");
    private static final Pattern ACTS = Pattern.compile("Acts are ([^.]*)\\.");

    private static TableMove move;
    private static int objects = 0;
    private static int calls = 0;

    public static void main(String[] args) throws Exception {
        String text = Files.readString(Path.of("README.md"));
        for (String line : text.split("\n")) {
            Matcher call = CALL.matcher(line);
            if (OBJECT.matcher(line).matches()) {
                move = new TableMove();
                objects++;
            } else if (call.matches()) {
                Due.text("a call is written as the others: " + line, call.group(4) == null ? "" : line, "");
                if (call.group(4) == null) {
                    ask(call.group(1), call.group(2), call.group(3));
                }
            } else {
                Due.answer("no other line makes calls: " + line, line.startsWith("    move"), false);
            }
        }
        Due.answer("examples", objects, 5);
        Due.answer("there are calls in them", calls > 60, true);
        theActs(text);
        output();
        Due.end();
    }

    private static void ask(String name, String parameters, String comment) {
        calls++;
        String got;
        try {
            got = Calls.answer(move, name, numbers(parameters));
        } catch (RuntimeException thrown) {
            got = thrown.getClass().getSimpleName();
        }
        Matcher answer = ANSWER.matcher(comment);
        Due.text(objects + ". example: " + name + "(" + parameters + ")", got, answer.matches() ? answer.group(1) : "");
    }

    /** A boolean is an even number if it is true, as Calls takes it. */
    private static int[] numbers(String parameters) {
        String[] parts = parameters.isEmpty() ? new String[0] : parameters.split(", ");
        int[] numbers = new int[parts.length];
        for (int i = 0; i < parts.length; i++) {
            switch (parts[i]) {
                case "true": numbers[i] = 0; break;
                case "false": numbers[i] = 1; break;
                default: numbers[i] = Integer.decode(parts[i]); break;
            }
        }
        return numbers;
    }

    private static void theActs(String text) {
        Matcher acts = ACTS.matcher(text);
        Set<String> named = new TreeSet<>();
        if (acts.find()) {
            named.addAll(Set.of(acts.group(1).replace("`", "").split(",\\s+|\\s+and\\s+")));
        }
        Due.text("the acts", named.toString(), new TreeSet<>(Set.of("put", "remove", "begin", "copy", "repair", "check",
            "switchOver", "switchBack", "lead", "goBack", "stop", "finish", "fill", "clearRange")).toString());
    }

    /** The output that README.md tells behind its second example. */
    private static void output() throws Exception {
        TableMove apart = Moves.copied();
        apart.put(5, 999);
        apart.damage(6, 42);
        apart.check(1);
        String want = Moves.written(apart, 1);
        Due.answer("README.md tells '" + want + "'", Files.readString(Path.of("README.md")).contains("`" + want + "`"), true);
    }
}
