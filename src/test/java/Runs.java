import java.lang.reflect.InvocationTargetException;
import java.lang.reflect.Method;
import java.lang.reflect.Modifier;
import java.util.ArrayList;
import java.util.Arrays;
import java.util.HashMap;
import java.util.List;
import java.util.Map;

/**
 * Tests written as runs of calls on a new object, each test for one sentence of the document, a line for each call:
 *
 *   make 0 3 1 = 3          a call and the answer that is due
 *   ! make 6 3 1 = BAD      the same, and nothing that can be told is another afterwards
 *   3 * put 0 0 0 1 = 1     three times
 *   give 0 2 4 1            slot 0 gets the table of these rows, by make and setRow
 *   table 0 = 2 4 1         slot 0 holds the table of these rows; or: = nothing
 *   row 0 1 = 5 6           the numbers of sheet 0 from number 1 on, to its end; or: = missing
 *   closings = 2 1 0        these and no more; or: = none
 *   reasons = 2 3 102       these and no more; or: = none
 *
 * Numbers may be told by their names: LOW, TOP (of int), LEAST (of long), BAD, NONE and the other answers.
 */
final class Runs {
    /** What later calls answer is free. */
    static final int MOST_CALLS = 512;
    private static final Map<String, Method> FACE = new HashMap<>();
    private static final Map<String, Long> NAMES = new HashMap<>();
    private static int tests = 0;
    private static int passed = 0;
    private static int failed = 0;

    static {
        for (Method method : YesNoPowers.class.getDeclaredMethods()) {
            if (Modifier.isPublic(method.getModifiers())) {
                FACE.put(method.getName(), method);
            }
        }
        String[] answers = {"BAD=-1", "NONE=-2", "UNLIKE=-3", "FULL=-4", "LARGE=-5", "NOTHING=-11", "OUTSIDE=-12",
            "SORT=-13", "SIZE=-14", "BY_NOUGHT=-15"};
        for (String answer : answers) {
            NAMES.put(answer.split("=")[0], Long.parseLong(answer.split("=")[1]));
        }
        NAMES.put("LOW", (long) Integer.MIN_VALUE);
        NAMES.put("TOP", (long) Integer.MAX_VALUE);
        NAMES.put("LEAST", Long.MIN_VALUE);
    }

    private Runs() {
    }

    /** An object, with a count of its calls. */
    static final class Subject {
        private final YesNoPowers x = new YesNoPowers();
        private int calls = 0;

        long call(String name, long... numbers) {
            calls++;
            if (calls > MOST_CALLS) {
                throw new IllegalStateException("the test makes more than " + MOST_CALLS + " calls");
            }
            Method method = FACE.get(name);
            if (method == null || method.getParameterCount() != numbers.length) {
                throw new IllegalStateException("no such call: " + name + " " + Arrays.toString(numbers));
            }
            Object[] given = new Object[numbers.length];
            for (int i = 0; i < numbers.length; i++) {
                given[i] = Math.toIntExact(numbers[i]);
            }
            try {
                return ((Number) method.invoke(x, given)).longValue();
            } catch (InvocationTargetException thrown) {
                throw new IllegalStateException(name + " " + Arrays.toString(numbers) + " threw " + thrown.getCause());
            } catch (IllegalAccessException closed) {
                throw new IllegalStateException(closed);
            }
        }
    }

    /** One test: the promise (or the term, as "1" and "2" with a letter), the words that it is for, and the run. */
    static void test(String promise, String words, String run) {
        tests++;
        String head = promise + ", \"" + words + "\": ";
        List<String> past = new ArrayList<>();
        Subject x = new Subject();
        int before = passed + failed;
        try {
            for (String line : run.split("\n")) {
                if (!line.isBlank()) {
                    step(head, x, line.strip(), past);
                }
            }
        } catch (IllegalStateException broken) {
            fail(head + broken.getMessage());
        }
        if (passed + failed == before) {
            fail(head + "nothing is looked at");
        }
    }

    static void end() {
        System.out.println(tests + " tests: " + passed + " answers as due, " + failed + " not");
        if (failed != 0) {
            System.exit(1);
        }
    }

    private static void fail(String text) {
        failed++;
        System.out.println(text);
    }

    private static void due(String what, Object got, Object want) {
        if (got.equals(want)) {
            passed++;
        } else {
            fail(what + " answered " + got + ", due is " + want);
        }
    }

    private static void step(String head, Subject x, String line, List<String> past) {
        boolean keeps = line.startsWith("! ");
        String rest = keeps ? line.substring(2) : line;
        int times = 1;
        if (rest.contains(" * ")) {
            times = Integer.parseInt(rest.substring(0, rest.indexOf(" * ")));
            rest = rest.substring(rest.indexOf(" * ") + 3);
        }
        String[] sides = rest.split(" = ");
        String[] words = sides[0].split(" ");
        if (keeps) {
            due(head + "all that can be told behind " + rest, told(past, sides[0]), told(past, null));
        }
        for (int time = 0; time < times; time++) {
            past.add(sides[0]);
            look(head, x, words, sides.length > 1 ? sides[1] : null);
        }
    }

    private static void look(String head, Subject x, String[] words, String want) {
        String what = head + String.join(" ", words);
        switch (words[0]) {
            case "give":
                give(x, numbers(words));
                return;
            case "table":
                due(what, tableOf(x, (int) number(words[1])), want);
                return;
            case "row":
                due(what, numbersOf(x, number(words[1]), number(words[2])), want);
                return;
            case "closings":
                due(what, listOf(x, "closing"), want);
                return;
            case "reasons":
                due(what, listOf(x, "reason"), want);
                return;
            default:
                due(what, x.call(words[0], numbers(words)), number(want));
        }
    }

    private static long number(String word) {
        Long named = NAMES.get(word);
        return named != null ? named : Long.parseLong(word);
    }

    private static long[] numbers(String[] words) {
        return Arrays.stream(words).skip(1).mapToLong(Runs::number).toArray();
    }

    /** The slot, and the rows. */
    private static void give(Subject x, long[] numbers) {
        x.call("make", numbers[0], numbers.length - 1, 0);
        for (int i = 1; i < numbers.length; i++) {
            x.call("setRow", numbers[0], i - 1, numbers[i]);
        }
    }

    private static String tableOf(Subject x, long slot) {
        long n = x.call("told", slot, 0);
        List<String> rows = new ArrayList<>();
        for (int i = 0; i < n; i++) {
            rows.add("" + x.call("line", slot, 0, i));
        }
        return n == 0 ? "nothing" : String.join(" ", rows);
    }

    private static String numbersOf(Subject x, long sheet, long from) {
        List<String> found = new ArrayList<>();
        for (long i = from; i <= 40; i++) {
            long item = x.call("item", sheet, i);
            if (item == Long.MIN_VALUE) {
                break;
            }
            found.add("" + item);
        }
        return found.isEmpty() ? x.call("cell", sheet, -1, 0) == -11 ? "missing" : "none" : String.join(" ", found);
    }

    private static String listOf(Subject x, String name) {
        List<String> found = new ArrayList<>();
        for (int i = 0; i <= 8; i++) {
            long one = x.call(name, i);
            if (one == -2) {
                break;
            }
            found.add("" + one);
        }
        return found.isEmpty() ? "none" : String.join(" ", found);
    }

    // ---- all that can be told of an object, behind a run and one call more

    static String told(List<String> past, String more) {
        String tables = again(past, more, Runs::tellTables);
        String log = again(past, more, Runs::tellLog);
        return tables + log + again(past, more, Runs::tellLinks);
    }

    private interface Teller {
        void tell(Subject x, List<String> told);
    }

    /** A new object goes through the run again, for what is told of one tells by changing it. */
    private static String again(List<String> past, String more, Teller teller) {
        Subject x = new Subject();
        for (String line : past) {
            repeat(x, line);
        }
        if (more != null) {
            repeat(x, more);
        }
        List<String> told = new ArrayList<>();
        teller.tell(x, told);
        return told + "\n";
    }

    private static void repeat(Subject x, String line) {
        String[] words = line.split(" ");
        if (words[0].equals("give")) {
            give(x, numbers(words));
        } else if (FACE.containsKey(words[0])) {
            x.call(words[0], numbers(words));
        }
    }

    private static void tellTables(Subject x, List<String> told) {
        for (int what = 0; what < 5; what++) {
            told.add("count " + x.call("count", what));
        }
        told.add("closings " + listOf(x, "closing"));
        told.add("reasons " + listOf(x, "reason"));
        for (int slot = 0; slot < 6; slot++) {
            told.add("slot " + tableOf(x, slot));
        }
        for (int sheet = 0; sheet < 4; sheet++) {
            told.add("sheet " + numbersOf(x, sheet, 0));
            for (int other = 0; other < 4; other++) {
                told.add("sorts " + x.call("shift", sheet, 0, other, 0, 0));
            }
            told.add("sort " + x.call("cell", sheet, 0, 200) + " " + x.call("item", sheet, 0));
        }
    }

    private static void tellLog(Subject x, List<String> told) {
        for (int step = 0; step <= 20; step++) {
            long slot = x.call("undo");
            told.add("undo " + slot + (slot < 0 ? "" : ": " + tableOf(x, slot)));
        }
    }

    /** By what comes of tables that are sent through the chain. */
    private static void tellLinks(Subject x, List<String> told) {
        for (int slot = 0; slot < 6; slot++) {
            told.add("would " + x.call("would", slot) + " " + listOf(x, "closing") + ", " + listOf(x, "reason"));
        }
        for (int n = 1; n <= 5; n++) {
            for (int what = 0; what < 4; what++) {
                x.call("make", 0, n, what);
                told.add("run " + x.call("run", 0) + " " + tableOf(x, 0));
            }
        }
        told.add("links " + x.call("loosen"));
    }
}
