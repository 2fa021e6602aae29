import java.lang.reflect.Field;
import java.lang.reflect.Method;
import java.lang.reflect.Modifier;
import java.nio.file.Files;
import java.nio.file.Path;
import java.util.Map;
import java.util.TreeMap;
import java.util.TreeSet;
import java.util.regex.Matcher;
import java.util.regex.Pattern;

/**
 * README.md tells what holds: each call that it shows with an answer behind it ("x.make(0, 3, 1);  // 3 .."), on an
 * object made anew at each "new YesNoPowers()", is made and compared; each call of the face is shown; and each
 * constant stands in its table with its value and a call that answers it.
 */
public final class ReadmeTest {
    private static final Pattern SHOWN = Pattern.compile("\\bx\\.(\\w+)\\(([-0-9, ]*)\\)\\)?;\\s*// (-?\\d+|[A-Z_]+)\\b");
    private static final Pattern CONSTANT = Pattern.compile("^\\| `([A-Z_]+)` \\| (-\\d+) \\| .* \\|$");
    private static final Map<String, Method> FACE = new TreeMap<>();
    private static final Map<String, Integer> CONSTANTS = new TreeMap<>();
    private static int passed = 0;
    private static int failed = 0;

    private static void due(String what, Object got, Object want) {
        if (got.equals(want)) {
            passed++;
        } else {
            failed++;
            System.out.println(what + ": is " + got + ", due is " + want);
        }
    }

    public static void main(String[] args) throws Exception {
        for (Method method : YesNoPowers.class.getDeclaredMethods()) {
            if (Modifier.isPublic(method.getModifiers())) {
                FACE.put(method.getName(), method);
            }
        }
        for (Field field : YesNoPowers.class.getDeclaredFields()) {
            if (Modifier.isPublic(field.getModifiers())) {
                CONSTANTS.put(field.getName(), field.getInt(null));
            }
        }
        read(Files.readString(Path.of("README.md")).split("\n"));
        System.out.println(passed + " passed, " + failed + " failed");
        if (failed != 0) {
            System.exit(1);
        }
    }

    private static void read(String[] lines) throws Exception {
        TreeSet<String> shown = new TreeSet<>();
        TreeSet<String> answered = new TreeSet<>();
        Map<String, Integer> table = new TreeMap<>();
        YesNoPowers x = new YesNoPowers();
        for (int i = 0; i < lines.length; i++) {
            if (lines[i].contains("= new YesNoPowers()")) {
                x = new YesNoPowers();
            }
            Matcher call = SHOWN.matcher(lines[i]);
            due("line " + (i + 1) + ": a call is shown with its answer", call.find(), lines[i].matches(".*\\bx\\.\\w+\\(.*"));
            if (call.reset().find()) {
                shown.add(call.group(1));
                answered.add(call.group(3));
                due("line " + (i + 1) + ": x." + call.group(1), answer(x, call), valueOf(call.group(3)));
            }
            Matcher constant = CONSTANT.matcher(lines[i]);
            if (constant.find()) {
                table.put(constant.group(1), Integer.parseInt(constant.group(2)));
            }
        }
        due("calls that are shown", shown, new TreeSet<>(FACE.keySet()));
        due("constants in the table", table, CONSTANTS);
        answered.retainAll(CONSTANTS.keySet());
        due("constants that a call answers", answered, new TreeSet<>(CONSTANTS.keySet()));
    }

    private static long valueOf(String word) {
        Integer named = CONSTANTS.get(word);
        return named != null ? named : Long.parseLong(word);
    }

    private static long answer(YesNoPowers x, Matcher call) throws Exception {
        String[] words = call.group(2).isBlank() ? new String[0] : call.group(2).split(",");
        Object[] given = new Object[words.length];
        for (int i = 0; i < words.length; i++) {
            given[i] = Integer.parseInt(words[i].strip());
        }
        return ((Number) FACE.get(call.group(1)).invoke(x, given)).longValue();
    }
}
