import java.lang.management.ManagementFactory;
import java.lang.reflect.Constructor;
import java.lang.reflect.Field;
import java.lang.reflect.Method;
import java.lang.reflect.Modifier;
import java.nio.file.Files;
import java.nio.file.Path;
import java.util.ArrayList;
import java.util.Arrays;
import java.util.List;
import java.util.TreeSet;
import java.util.regex.Matcher;
import java.util.regex.Pattern;

/** The public face as the document writes it, those rules of LANGUAGE.md that can be read off, and the room that calls take. */
public final class FaceTest {
    private static final String METHODS = "make:3 put:4 at:3 line:3 setRow:3 times:3 plus:3 power:3 derive:3 clear:1 same:2 "
        + "load:4 spill:3 told:2 reaches:2 bound:2 classes:1 classOf:2 ofClass:3 part:2 parts:3 rest:3 space:2 basis:2 "
        + "spans:2 alike:3 roots:2 root:3 link:2 run:1 would:1 closing:1 reason:1 loosen:0 undo:0 sheet:3 cell:3 item:2 "
        + "shift:5 count:1";
    private static final String CONSTANTS = "BAD=-1 NONE=-2 UNLIKE=-3 FULL=-4 LARGE=-5 NOTHING=-11 OUTSIDE=-12 SORT=-13 "
        + "SIZE=-14 BY_NOUGHT=-15";
    private static final String RULED_OUT = "\\b(throw|throws|try|catch|synchronized|assert|import|package|protected|var)\\b|->|::|@";
    private static int passed = 0;
    private static int failed = 0;

    private static void due(String what, Object got, Object want) {
        if (got.equals(want)) {
            passed++;
        } else {
            failed++;
            System.out.println(what + ": is " + got + ", due is " + want);
        }
    }

    private static void holds(String what, boolean does) {
        due(what, does, true);
    }

    public static void main(String[] args) throws Exception {
        face();
        classesInside();
        source();
        room();
        System.out.println(passed + " passed, " + failed + " failed");
        if (failed != 0) {
            System.exit(1);
        }
    }

    private static void face() throws Exception {
        Class<?> face = YesNoPowers.class;
        holds("public and final", Modifier.isPublic(face.getModifiers()) && Modifier.isFinal(face.getModifiers()));
        TreeSet<String> methods = new TreeSet<>();
        for (Method method : face.getDeclaredMethods()) {
            if (Modifier.isPrivate(method.getModifiers())) {
                continue;
            }
            methods.add(method.getName() + ":" + method.getParameterCount());
            holds(method + " is public and no more", method.getModifiers() == Modifier.PUBLIC);
            due(method + " answers", method.getReturnType(), method.getName().equals("item") ? long.class : int.class);
            holds(method + " takes ints", Arrays.stream(method.getParameterTypes()).allMatch(type -> type == int.class));
        }
        due("methods", methods, new TreeSet<>(Arrays.asList(METHODS.split(" "))));
        TreeSet<String> constants = new TreeSet<>();
        for (Field field : face.getDeclaredFields()) {
            if (!Modifier.isPrivate(field.getModifiers())) {
                due(field + "", field.getModifiers(), Modifier.PUBLIC | Modifier.STATIC | Modifier.FINAL);
                due(field + " is an int", field.getType(), int.class);
                constants.add(field.getName() + "=" + field.getInt(null));
            }
        }
        due("constants", constants, new TreeSet<>(Arrays.asList(CONSTANTS.split(" "))));
        Constructor<?>[] constructors = face.getDeclaredConstructors();
        due("constructors", constructors.length, 1);
        holds("the constructor is public", Modifier.isPublic(constructors[0].getModifiers()));
        due("the constructor's parameters", constructors[0].getParameterCount(), 0);
    }

    private static void classesInside() {
        List<Class<?>> all = new ArrayList<>(Arrays.asList(YesNoPowers.class.getDeclaredClasses()));
        TreeSet<String> faceNames = new TreeSet<>();
        for (String method : METHODS.split(" ")) {
            faceNames.add(method.split(":")[0]);
        }
        for (Class<?> inside : all) {
            int marks = inside.getModifiers();
            holds(inside + " is static, and not public", Modifier.isStatic(marks) && !Modifier.isPublic(marks));
            due(inside + " has no class inside", inside.getDeclaredClasses().length, 0);
        }
        all.add(YesNoPowers.class);
        holds("some twelve classes", all.size() <= 12);
        for (Class<?> one : all) {
            int fields = 0;
            for (Field field : one.getDeclaredFields()) {
                boolean ofClass = Modifier.isStatic(field.getModifiers());
                holds(field + ": static only if final", !ofClass || Modifier.isFinal(field.getModifiers()));
                fields += ofClass ? 0 : 1;
            }
            holds(one + ": some twenty fields", fields <= 20);
            // Nothing of an object in the making is handed out, if no constructor of a class inside takes anything.
            for (Constructor<?> constructor : one.getDeclaredConstructors()) {
                due(constructor + " takes", constructor.getParameterCount(), 0);
            }
            for (Method method : one.getDeclaredMethods()) {
                holds(method + ": seven parameters", method.getParameterCount() <= 7);
                boolean own = !Modifier.isPublic(method.getModifiers());
                holds(method + ": no name of the face", !own || !faceNames.contains(method.getName()));
            }
        }
    }

    private static void source() throws Exception {
        String text = Files.readString(Path.of("src/main/java/YesNoPowers.java"));
        String code = text.replaceAll("(?s)/\\*.*?\\*/", "").replaceAll("//[^\n]*", "");
        Matcher found = Pattern.compile(RULED_OUT).matcher(code);
        holds("nothing that is ruled out: " + (found.find() ? found.group() : ""), !found.reset().find());
        holds("signs up to 126", text.chars().allMatch(sign -> sign == '\n' || sign >= 32 && sign < 127));
        // Objects and rows are made with the object alone: in initialisers, in constructors, never in a method.
        String[] lines = text.split("\n");
        String end = "";
        int start = 0;
        boolean inMethod = false;
        for (int i = 0; i < lines.length; i++) {
            if (end.isEmpty() && lines[i].matches(" {4}( {4})?(?!for|if|switch|while)\\S.*\\) \\{")) {
                start = i;
                end = " ".repeat(lines[i].length() - lines[i].stripLeading().length()) + "}";
                inMethod = !lines[i].matches("\\s*(public YesNoPowers|Chain|Log)\\(.*");
            }
            if (lines[i].equals(end)) {
                holds("line " + (start + 1) + ": a method of some sixty lines", i - start <= 60);
                end = "";
                inMethod = false;
            }
            holds("line " + (i + 1) + ": nothing is made in a method", !inMethod || !lines[i].matches(".*\\bnew\\b.*"));
            holds("line " + (i + 1) + ": not too long", lines[i].length() <= 160);
        }
    }

    /** All calls of the face together must make nothing: what they need stands ready from the constructor on. */
    private static void room() {
        com.sun.management.ThreadMXBean meter = (com.sun.management.ThreadMXBean) ManagementFactory.getThreadMXBean();
        YesNoPowers x = new YesNoPowers();
        long sum = useAll(x);
        long before = meter.getThreadAllocatedBytes(Thread.currentThread().getId());
        for (int round = 0; round < 20; round++) {
            sum += useAll(x);
        }
        long made = meter.getThreadAllocatedBytes(Thread.currentThread().getId()) - before;
        holds("20 rounds made " + made + " bytes (sum " + sum + ")", made < 20000);
    }

    private static long useAll(YesNoPowers x) {
        long sum = x.make(0, 12, 4) + x.make(1, 12, 3) + x.put(0, 1, 1, 1) + x.at(0, 1, 1) + x.line(0, 1, 1);
        sum += x.setRow(1, 1, 9) + x.times(0, 1, 2) + x.plus(0, 1, 3) + x.power(0, 999999, 4) + x.same(0, 1);
        sum += x.sheet(0, 1, 40) + x.sheet(1, 0, 40) + x.spill(0, 0, 3) + x.load(5, 0, 3, 12) + x.cell(0, 1, 1);
        for (int what = 0; what < 8; what++) {
            sum += x.derive(0, what, 5) + x.told(0, what) + x.bound(0, what) + x.space(0, what) + x.ofClass(0, 0, what);
            sum += x.link(what, 0) + x.roots(0, what) + x.root(0, what, 1) + x.alike(0, 1, what) + x.count(what);
        }
        sum += x.reaches(0, 4) + x.classes(0) + x.classOf(0, 2) + x.part(0, 3) + x.parts(0, 0, 0) + x.rest(0, 0, 7);
        sum += x.basis(0, 3) + x.spans(0, 77) + x.run(0) + x.would(0) + x.closing(0) + x.reason(0) + x.loosen();
        sum += x.make(2, 4, 1) + x.roots(2, 8) + x.root(2, 8, 3) + x.clear(3) + x.undo() + x.item(0, 4);
        return sum + x.shift(0, 1, 0, 2, 20);
    }
}
