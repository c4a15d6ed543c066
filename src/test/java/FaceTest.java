import java.lang.reflect.Constructor;
import java.lang.reflect.Field;
import java.lang.reflect.Method;
import java.lang.reflect.Modifier;
import java.nio.file.Files;
import java.nio.file.Path;
import java.util.Arrays;
import java.util.Set;
import java.util.TreeSet;
import java.util.regex.Matcher;
import java.util.regex.Pattern;

/** The public face as the document has it, and some rules of LANGUAGE.md that a program can look at. */
public final class FaceTest {
    private static final Path DOCUMENT = Path.of("../shared/DOC.md");
    private static final Path SOURCE = Path.of("src/main/java/TableMove.java");

    public static void main(String[] args) throws Exception {
        classesInside(face());
        source();
        Due.end();
    }

    private static Set<String> promised() throws Exception {
        Set<String> face = new TreeSet<>();
        Pattern member = Pattern.compile("^    public (?!static)(?:([a-z]+) )?(\\w+)\\(([^)]*)\\)(?: throws ([^;]*))?;$");
        for (String line : Files.readAllLines(DOCUMENT)) {
            Matcher found = member.matcher(line);
            if (found.matches()) {
                String types = found.group(3).replaceAll(" \\w+(,|$)", "$1").replace(" ", "");
                String thrown = found.group(4) == null ? "" : found.group(4).replace(" ", "");
                face.add(found.group(1) + " " + found.group(2) + "(" + types + ") throws " + thrown);
            }
        }
        return face;
    }

    private static String types(Class<?>[] types) {
        return String.join(",", Arrays.stream(types).map(Class::getSimpleName).toList());
    }

    /** The names of the methods of the face. */
    private static Set<String> face() throws Exception {
        Set<String> face = new TreeSet<>();
        Set<String> names = new TreeSet<>();
        for (Constructor<?> made : TableMove.class.getDeclaredConstructors()) {
            face.add("null TableMove(" + types(made.getParameterTypes()) + ") throws ");
        }
        for (Method method : TableMove.class.getDeclaredMethods()) {
            if (Modifier.isPublic(method.getModifiers())) {
                names.add(method.getName());
                face.add(method.getReturnType() + " " + method.getName() + "(" + types(method.getParameterTypes())
                    + ") throws " + types(method.getExceptionTypes()));
            }
        }
        Due.answer("members of the face", promised().size(), 51);
        Due.text("the face", face.toString(), promised().toString());
        for (Method method : TableMove.class.getDeclaredMethods()) {
            if (!Modifier.isPublic(method.getModifiers())) {
                Due.answer(method + " is private", Modifier.isPrivate(method.getModifiers()), true);
                Due.answer(method + " has a name of its own", names.contains(method.getName()), false);
            }
        }
        for (Field field : TableMove.class.getDeclaredFields()) {
            boolean constant = Set.of("NONE", "DOWN", "BROKEN").contains(field.getName());
            Due.answer(field + " is public", Modifier.isPublic(field.getModifiers()), constant);
            Due.answer(field + " is private", Modifier.isPrivate(field.getModifiers()), !constant);
        }
        Due.answer("TableMove is final", Modifier.isFinal(TableMove.class.getModifiers()), true);
        return names;
    }

    private static void classesInside(Set<String> names) {
        Class<?>[] inside = TableMove.class.getDeclaredClasses();
        Due.answer("some twelve classes", inside.length <= 12, true);
        for (Class<?> one : inside) {
            Due.answer(one + " is static", Modifier.isStatic(one.getModifiers()), true);
            Due.answer(one + " is public", Modifier.isPublic(one.getModifiers()), false);
            for (Method method : one.getDeclaredMethods()) {
                Due.answer(method + " has a name of its own", names.contains(method.getName()), false);
            }
            int fields = 0;
            for (Field field : one.getDeclaredFields()) {
                boolean counts = !Modifier.isStatic(field.getModifiers());
                fields += counts ? 1 : 0;
                Due.answer(field + " is final if static", counts || Modifier.isFinal(field.getModifiers()), true);
            }
            Due.answer(one + " has some twenty fields", fields <= 20, true);
        }
    }

    private static void source() throws Exception {
        String text = Files.readString(SOURCE);
        String[] ruledOut = {"import ", "package ", "->", "::", "finally", "assert ", "synchronized", "catch", "Exact(",
            "instanceof", "hashCode", "@", "Object", "System.out", "System.nano", "System.current", "Random", "Thread"};
        for (String word : ruledOut) {
            Due.answer("the source has '" + word + "'", text.contains(word), false);
        }
        Due.answer("the source is ASCII", text.chars().allMatch(sign -> sign < 128), true);
    }
}
