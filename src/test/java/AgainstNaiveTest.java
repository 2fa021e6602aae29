import java.lang.reflect.Method;
import java.util.ArrayList;
import java.util.Arrays;
import java.util.Comparator;
import java.util.List;
import java.util.Random;

/** Long runs of drawn calls, always the same ones: each answer, and now and then all that can be told, is compared with NaivePowers. */
public final class AgainstNaiveTest {
    private static final int RUNS = 260;
    private static final int CALLS = 512;
    /** What is drawn more often, so that slots fill, chains run and sheets hold rows. */
    private static final String[] OFTEN = {
        "make", "make", "setRow", "setRow", "put", "times", "derive", "link", "run", "would", "undo", "sheet",
        "cell", "spill", "load", "closing", "reason", "root", "roots", "part", "parts", "ofClass", "told", "bound", "space", "basis",
    };
    private static final int[] FAR = {Integer.MIN_VALUE, Integer.MAX_VALUE, -1, -2, 13, 40, 41, 100, 1000000, 1000001};

    private final Random random;
    private final int size;
    private final boolean dense;
    private final YesNoPowers x = new YesNoPowers();
    private final NaivePowers naive = new NaivePowers();
    private final List<String> calls = new ArrayList<>();

    private AgainstNaiveTest(int run) {
        random = new Random(run);
        size = run % 3 == 0 ? 4 : run % 3 == 1 ? 6 : 12;
        dense = run % 5 == 0;
    }

    public static void main(String[] args) throws Exception {
        List<Method> face = new ArrayList<>();
        for (Method method : YesNoPowers.class.getDeclaredMethods()) {
            if (java.lang.reflect.Modifier.isPublic(method.getModifiers())) {
                face.add(method);
            }
        }
        face.sort(Comparator.comparing(Method::getName));
        int failed = 0;
        for (int run = 0; run < RUNS; run++) {
            if (!new AgainstNaiveTest(run).agrees(face, run)) {
                failed++;
            }
        }
        System.out.println(RUNS - failed + " passed, " + failed + " failed");
        if (failed != 0) {
            System.exit(1);
        }
    }

    private boolean agrees(List<Method> face, int run) throws Exception {
        for (int call = 0; call < CALLS; call++) {
            Method method = face.get(random.nextInt(face.size()));
            if (random.nextInt(3) > 0) {
                String name = OFTEN[random.nextInt(OFTEN.length)];
                method = face.stream().filter(m -> m.getName().equals(name)).findFirst().orElseThrow();
            }
            Object[] given = draw(method.getName(), method.getParameterCount());
            if (!compare(method, given, run)) {
                return false;
            }
        }
        return true;
    }

    private boolean compare(Method method, Object[] given, int run) throws Exception {
        Method other = NaivePowers.class.getDeclaredMethod(method.getName(), method.getParameterTypes());
        long got = ((Number) method.invoke(x, given)).longValue();
        long want = ((Number) other.invoke(naive, given)).longValue();
        calls.add(method.getName() + Arrays.toString(given) + " " + got);
        if (got != want) {
            System.out.println("run " + run + ", due is " + want + " by the last of:");
            calls.forEach(line -> System.out.println("  " + line));
            return false;
        }
        return true;
    }

    /** Numbers that mostly mean something: by the name and place of what they are for. */
    private Object[] draw(String name, int parameters) {
        Object[] given = new Object[parameters];
        for (int p = 0; p < parameters; p++) {
            given[p] = random.nextInt(40) == 0 ? FAR[random.nextInt(FAR.length)] : fitting(name, p);
        }
        return given;
    }

    private int fitting(String name, int p) {
        boolean sheets = name.equals("sheet") || name.equals("cell") || name.equals("item") || name.equals("shift");
        if (p == 0 && sheets) {
            return random.nextInt(4);
        }
        switch (name + p) {
            case "link0":
                return random.nextInt(7);
            case "link1":
                return random.nextInt(8) == 0 ? random.nextInt(100) : random.nextInt(6);
            case "make1":
                return random.nextInt(4) == 0 ? 1 + random.nextInt(size) : Math.min(size, 4 + run3());
            case "make2":
                return random.nextInt(5);
            case "setRow2":
                return drawSet();
            case "spans1":
                return random.nextInt(1 << size);
            case "power1":
                return random.nextInt(2) == 0 ? random.nextInt(20) : random.nextInt(1000001);
            case "roots1":
            case "root1":
                return 2 + random.nextInt(7);
            case "sheet1":
                return random.nextInt(8) == 0 ? -1 : random.nextInt(2);
            case "sheet2":
                return random.nextInt(41);
            case "cell2":
                return random.nextInt(4) == 0 ? random.nextInt() : random.nextInt(1 << size) & random.nextInt(1 << size);
            case "load3":
                return 1 + random.nextInt(Math.min(size, 8));
            case "cell1":
            case "item1":
                return random.nextInt(20);
            case "shift2":
            case "spill1":
            case "load1":
                return random.nextInt(4);
            case "rest2":
                return random.nextInt();
            case "ofClass2":
            case "told1":
                return random.nextInt(8);
            case "put3":
                return random.nextInt(2);
            default:
                return p == 0 || name.equals("times") || name.equals("plus") ? random.nextInt(6) : random.nextInt(size);
        }
    }

    /** So that most tables of a run are of one n. */
    private int run3() {
        return size == 12 ? random.nextInt(2) == 0 ? 8 : 4 : 0;
    }

    /** Few columns mostly, or all tables would soon lead everywhere; in some runs many, for the sake of spaces. */
    private int drawSet() {
        if (dense) {
            return random.nextInt(1 << size);
        }
        int set = 1 << random.nextInt(Math.max(1, size - random.nextInt(2) * 8));
        return random.nextInt(3) == 0 ? set | random.nextInt(1 << size) & random.nextInt(1 << size) : set;
    }
}
