import java.util.ArrayList;
import java.util.Arrays;
import java.util.HashMap;
import java.util.List;
import java.util.Map;
import java.util.TreeMap;
import java.util.TreeSet;

/** The document once more, word for word and without regard to cost, for AgainstNaiveTest. Tables never change. */
final class NaivePowers {
    private static final int BAD = -1, NONE = -2, UNLIKE = -3, FULL = -4, LARGE = -5;
    private static final int NOTHING = -11, OUTSIDE = -12, SORT = -13, SIZE = -14, BY_NOUGHT = -15;
    private static final Map<String, List<boolean[][]>> POWERS = new HashMap<>();
    private static final Map<Integer, TreeMap<Integer, int[]>> ROOTS = new HashMap<>();

    private record Note(int slot, boolean[][] held) { }

    private record Link(int kind, int m, boolean[][] held) { }

    private final boolean[][][] slots = new boolean[6][][];
    private final Number[][] sheets = new Number[4][];
    private final int[] sorts = new int[4];
    private final List<Note> log = new ArrayList<>();
    private final List<Link> links = new ArrayList<>();
    private List<Integer> closings = new ArrayList<>();
    private List<Integer> reasons = new ArrayList<>();

    // ---- the terms

    private static boolean[][] unit(int n) {
        boolean[][] t = new boolean[n][n];
        for (int i = 0; i < n; i++) {
            t[i][i] = true;
        }
        return t;
    }

    private static boolean[][] product(boolean[][] a, boolean[][] b) {
        boolean[][] t = new boolean[a.length][a.length];
        for (int i = 0; i < a.length; i++) {
            for (int j = 0; j < a.length; j++) {
                for (int k = 0; k < a.length; k++) {
                    t[i][j] = t[i][j] || a[i][k] && b[k][j];
                }
            }
        }
        return t;
    }

    private static boolean[][] sum(boolean[][] a, boolean[][] b) {
        boolean[][] t = new boolean[a.length][a.length];
        for (int i = 0; i < a.length; i++) {
            for (int j = 0; j < a.length; j++) {
                t[i][j] = a[i][j] | b[i][j];
            }
        }
        return t;
    }

    private static boolean[][] meet(boolean[][] a, boolean[][] b) {
        return complement(sum(complement(a), complement(b)));
    }

    private static boolean[][] complement(boolean[][] a) {
        boolean[][] t = new boolean[a.length][a.length];
        for (int i = 0; i < a.length; i++) {
            for (int j = 0; j < a.length; j++) {
                t[i][j] = !a[i][j];
            }
        }
        return t;
    }

    private static boolean[][] transpose(boolean[][] a) {
        boolean[][] t = new boolean[a.length][a.length];
        for (int i = 0; i < a.length; i++) {
            for (int j = 0; j < a.length; j++) {
                t[i][j] = a[j][i];
            }
        }
        return t;
    }

    /** Powers 0, 1, 2, .. to 260 one by one: more than any index and two periods. */
    private static List<boolean[][]> row(boolean[][] a) {
        // Kept few, so that the test needs little room.
        if (POWERS.size() > 20) {
            POWERS.clear();
        }
        return POWERS.computeIfAbsent(Arrays.deepToString(a), key -> {
            List<boolean[][]> row = new ArrayList<>();
            row.add(unit(a.length));
            for (int k = 0; k < 260; k++) {
                row.add(product(row.get(k), a));
            }
            return row;
        });
    }

    private static boolean[][] power(boolean[][] a, int k) {
        List<boolean[][]> row = row(a);
        if (k < row.size()) {
            return row.get(k);
        }
        int index = index(a);
        return row.get(index + (k - index) % period(a));
    }

    private static boolean[][] closure(boolean[][] a) {
        boolean[][] t = new boolean[a.length][a.length];
        for (int k = 1; k <= a.length; k++) {
            t = sum(t, power(a, k));
        }
        return t;
    }

    private static boolean like(boolean[][] a, boolean[][] b) {
        return Arrays.deepEquals(a, b);
    }

    private static int index(boolean[][] a) {
        List<boolean[][]> row = row(a);
        for (int k = 1; ; k++) {
            for (int later = k + 1; later < row.size(); later++) {
                if (like(row.get(k), row.get(later))) {
                    return k;
                }
            }
        }
    }

    private static int period(boolean[][] a) {
        List<boolean[][]> row = row(a);
        int index = index(a);
        int p = 1;
        while (!like(row.get(index), row.get(index + p))) {
            p++;
        }
        return p;
    }

    private static int idempotent(boolean[][] a) {
        int k = 1;
        while (!like(power(a, 2 * k), power(a, k))) {
            k++;
        }
        return k;
    }

    private static int exponent(boolean[][] a) {
        List<boolean[][]> row = row(a);
        for (int k = 1; k < row.size(); k++) {
            if (ones(row.get(k)) == a.length * a.length) {
                return k;
            }
        }
        return 0;
    }

    private static int ones(boolean[][] a) {
        int sum = 0;
        for (boolean[] row : a) {
            sum += Integer.bitCount(bits(row));
        }
        return sum;
    }

    private static int bits(boolean[] row) {
        int set = 0;
        for (int j = 0; j < row.length; j++) {
            set += row[j] ? 1 << j : 0;
        }
        return set;
    }

    private static boolean walks(boolean[][] a, int from, int to) {
        for (int m = 0; m <= a.length; m++) {
            if (power(a, m)[from][to]) {
                return true;
            }
        }
        return false;
    }

    private static List<List<Integer>> classesOf(boolean[][] a) {
        List<List<Integer>> found = new ArrayList<>();
        for (int i = 0; i < a.length; i++) {
            List<Integer> home = null;
            for (List<Integer> one : found) {
                if (walks(a, i, one.get(0)) && walks(a, one.get(0), i)) {
                    home = one;
                }
            }
            if (home == null) {
                home = new ArrayList<>();
                found.add(home);
            }
            home.add(i);
        }
        return found;
    }

    private static int classAt(boolean[][] a, int member) {
        List<List<Integer>> all = classesOf(a);
        for (int k = 0; k < all.size(); k++) {
            if (all.get(k).contains(member)) {
                return k;
            }
        }
        throw new IllegalStateException();
    }

    private static int girth(boolean[][] a, List<Integer> members) {
        for (int m = 1; m < row(a).size(); m++) {
            for (int i : members) {
                if (power(a, m)[i][i]) {
                    return m;
                }
            }
        }
        return 0;
    }

    private static int classPeriod(boolean[][] a, List<Integer> members) {
        int divisor = 0;
        for (int m = 1; m < row(a).size(); m++) {
            for (int i : members) {
                if (power(a, m)[i][i]) {
                    divisor = java.math.BigInteger.valueOf(divisor).gcd(java.math.BigInteger.valueOf(m)).intValue();
                }
            }
        }
        return divisor;
    }

    private static int partOf(boolean[][] a, List<Integer> members, int member) {
        int m = 0;
        while (!power(a, m)[members.get(0)][member]) {
            m++;
        }
        return m % classPeriod(a, members);
    }

    private static int level(boolean[][] a, List<List<Integer>> all, int k) {
        int level = 0;
        for (int other = 0; other < all.size(); other++) {
            for (int i : all.get(other)) {
                for (int j : all.get(k)) {
                    if (other != k && a[i][j]) {
                        level = Math.max(level, 1 + level(a, all, other));
                    }
                }
            }
        }
        return level;
    }

    private static int below(boolean[][] a, List<List<Integer>> all, int k) {
        int set = 0;
        for (int other = 0; other < all.size(); other++) {
            if (other != k && walks(a, all.get(k).get(0), all.get(other).get(0))) {
                set |= 1 << other;
            }
        }
        return set;
    }

    private static TreeSet<Integer> spaceOf(boolean[][] a) {
        TreeSet<Integer> found = new TreeSet<>();
        found.add(0);
        for (boolean[] row : a) {
            TreeSet<Integer> more = new TreeSet<>(found);
            for (int set : found) {
                more.add(set | bits(row));
            }
            found = more;
        }
        return found;
    }

    private static List<Integer> basisOf(boolean[][] a) {
        TreeSet<Integer> found = new TreeSet<>();
        for (boolean[] row : a) {
            int set = bits(row);
            int union = 0;
            for (boolean[] other : a) {
                if ((bits(other) | set) == set && bits(other) != set) {
                    union |= bits(other);
                }
            }
            if (set != 0 && union != set) {
                found.add(set);
            }
        }
        return new ArrayList<>(found);
    }

    private static boolean[][] greatest(boolean[][] a) {
        return complement(product(product(transpose(a), complement(a)), transpose(a)));
    }

    /** For n up to 3 by going through all X, for others by the greatest one, of which the document tells so. */
    private static boolean regular(boolean[][] a) {
        int n = a.length;
        if (n > 3) {
            return like(product(product(a, greatest(a)), a), a);
        }
        for (int number = 0; number < 1 << n * n; number++) {
            if (like(product(product(a, numbered(n, number)), a), a)) {
                return true;
            }
        }
        return false;
    }

    private static boolean[][] numbered(int n, int number) {
        boolean[][] t = new boolean[n][n];
        for (int i = 0; i < n; i++) {
            for (int j = 0; j < n; j++) {
                t[i][j] = (number >> n * i + j) % 2 != 0;
            }
        }
        return t;
    }

    private static int number(boolean[][] a) {
        int sum = 0;
        for (int i = 0; i < a.length; i++) {
            sum += bits(a[i]) << a.length * i;
        }
        return sum;
    }

    /** By a table's number: how many roots, and the least of them; found by raising all tables of the n. */
    private static int[] rootsOf(boolean[][] a, int d) {
        int n = a.length;
        TreeMap<Integer, int[]> all = ROOTS.computeIfAbsent(10 * n + d, key -> {
            TreeMap<Integer, int[]> found = new TreeMap<>();
            for (int number = 0; number < 1 << n * n; number++) {
                boolean[][] base = numbered(n, number);
                boolean[][] raised = base;
                for (int k = 1; k < d; k++) {
                    raised = product(raised, base);
                }
                int least = number;
                found.computeIfAbsent(number(raised), of -> new int[] {0, least})[0]++;
            }
            return found;
        });
        return all.getOrDefault(number(a), new int[] {0, NONE});
    }

    // ---- the calls

    private boolean held(int slot) {
        return slot >= 0 && slot < 6 && slots[slot] != null;
    }

    private static boolean slot(int slot) {
        return slot >= 0 && slot < 6;
    }

    private static boolean isSheet(int sheet) {
        return sheet >= 0 && sheet < 4;
    }

    private boolean member(int slot, int i) {
        return held(slot) && i >= 0 && i < slots[slot].length;
    }

    private int give(int slot, boolean[][] table) {
        log.add(new Note(slot, slots[slot]));
        if (log.size() > 20) {
            log.remove(0);
        }
        slots[slot] = table;
        return table == null ? 0 : table.length;
    }

    private static boolean[] rowOf(int n, int set) {
        boolean[] row = new boolean[n];
        for (int j = 0; j < n; j++) {
            row[j] = (set >> j & 1) != 0;
        }
        return row;
    }

    private boolean[][] copy(int slot) {
        boolean[][] t = new boolean[slots[slot].length][];
        for (int i = 0; i < t.length; i++) {
            t[i] = slots[slot][i].clone();
        }
        return t;
    }

    int make(int slot, int n, int what) {
        if (!slot(slot) || n < 1 || n > 12 || what < 0 || what > 4 || what == 4 && n < 2) {
            return BAD;
        }
        boolean[][] t = new boolean[n][n];
        for (int i = 0; i < n; i++) {
            for (int j = 0; j < n; j++) {
                boolean ring = j == i + 1 || i == n - 1 && j == 0;
                boolean more = i == n - 1 && j == 1;
                t[i][j] = what == 1 || what == 2 && i == j || what == 3 && ring || what == 4 && (ring || more);
            }
        }
        return give(slot, t);
    }

    int put(int slot, int i, int j, int v) {
        if (!member(slot, i) || !member(slot, j) || v != 0 && v != 1) {
            return BAD;
        }
        int was = at(slot, i, j);
        boolean[][] t = copy(slot);
        t[i][j] = v == 1;
        give(slot, t);
        return was;
    }

    int at(int slot, int i, int j) {
        return !member(slot, i) || !member(slot, j) ? BAD : slots[slot][i][j] ? 1 : 0;
    }

    int line(int slot, int way, int i) {
        if (!member(slot, i) || way != 0 && way != 1) {
            return BAD;
        }
        return bits(way == 0 ? slots[slot][i] : transpose(slots[slot])[i]);
    }

    int setRow(int slot, int i, int set) {
        if (!member(slot, i) || set < 0 || set >= 1 << slots[slot].length) {
            return BAD;
        }
        int was = bits(slots[slot][i]);
        boolean[][] t = copy(slot);
        t[i] = rowOf(t.length, set);
        give(slot, t);
        return was;
    }

    int times(int a, int b, int to) {
        if (!held(a) || !held(b) || !slot(to)) {
            return BAD;
        }
        return slots[a].length != slots[b].length ? UNLIKE : give(to, product(slots[a], slots[b]));
    }

    int plus(int a, int b, int to) {
        if (!held(a) || !held(b) || !slot(to)) {
            return BAD;
        }
        return slots[a].length != slots[b].length ? UNLIKE : give(to, sum(slots[a], slots[b]));
    }

    int power(int a, int k, int to) {
        return !held(a) || k < 0 || k > 1000000 || !slot(to) ? BAD : give(to, power(slots[a], k));
    }

    int derive(int a, int what, int to) {
        if (!held(a) || !slot(to)) {
            return BAD;
        }
        return switch (what) {
            case 0 -> give(to, slots[a]);
            case 1 -> give(to, transpose(slots[a]));
            case 2 -> give(to, complement(slots[a]));
            case 3 -> give(to, closure(slots[a]));
            case 4 -> give(to, greatest(slots[a]));
            default -> BAD;
        };
    }

    int clear(int slot) {
        if (!slot(slot)) {
            return BAD;
        }
        int had = told(slot, 0);
        if (had > 0) {
            give(slot, null);
        }
        return had;
    }

    int same(int a, int b) {
        return !held(a) || !held(b) ? BAD : like(slots[a], slots[b]) ? 1 : 0;
    }

    int load(int slot, int sheet, int from, int n) {
        if (!slot(slot) || !isSheet(sheet) || n < 1 || n > 12) {
            return BAD;
        }
        if (sheets[sheet] == null) {
            return NOTHING;
        }
        if (from < 0 || (long) from + n > sheets[sheet].length) {
            return OUTSIDE;
        }
        boolean[][] t = new boolean[n][];
        for (int i = 0; i < n; i++) {
            int row = sheets[sheet][from + i].intValue();
            if (sorts[sheet] == 0) {
                row = Math.floorMod(row, 256);
            }
            if (row < 0 || row >= 1 << n) {
                return BAD;
            }
            t[i] = rowOf(n, row);
        }
        return give(slot, t);
    }

    int spill(int slot, int sheet, int from) {
        if (!held(slot) || !isSheet(sheet)) {
            return BAD;
        }
        if (sheets[sheet] == null) {
            return NOTHING;
        }
        if (from < 0 || from > sheets[sheet].length) {
            return OUTSIDE;
        }
        int spilt = 0;
        for (boolean[] row : slots[slot]) {
            if (from + spilt < sheets[sheet].length) {
                cell(sheet, from + spilt, bits(row));
                spilt++;
            }
        }
        return spilt;
    }

    int told(int slot, int what) {
        if (!slot(slot) || what < 0 || what > 7 || what > 0 && !held(slot)) {
            return BAD;
        }
        boolean[][] t = slots[slot];
        return switch (what) {
            case 0 -> t == null ? 0 : t.length;
            case 1 -> index(t);
            case 2 -> period(t);
            case 3 -> idempotent(t);
            case 4 -> exponent(t);
            case 5 -> ones(t);
            case 6 -> like(product(t, t), t) ? 1 : 0;
            default -> like(transpose(t), t) ? 1 : 0;
        };
    }

    int reaches(int a, int b) {
        if (!held(a) || !held(b)) {
            return BAD;
        }
        if (slots[a].length != slots[b].length) {
            return UNLIKE;
        }
        for (int k = 1; k < row(slots[a]).size(); k++) {
            if (like(power(slots[a], k), slots[b])) {
                return k;
            }
        }
        return NONE;
    }

    int bound(int slot, int what) {
        if (!held(slot) || what < 0 || what > 3) {
            return BAD;
        }
        boolean[][] t = slots[slot];
        int n = t.length;
        int loops = ones(meet(t, unit(n)));
        if (exponent(t) == 0) {
            return NONE;
        }
        int s = Integer.MAX_VALUE;
        for (List<Integer> one : classesOf(t)) {
            s = girth(t, one) > 0 ? Math.min(s, girth(t, one)) : s;
        }
        return switch (what) {
            case 0 -> (n - 1) * (n - 1) + 1;
            case 1 -> n + s * (n - 2);
            case 2 -> loops > 0 ? 2 * n - loops - 1 : NONE;
            default -> !like(t, transpose(t)) ? NONE : n == 1 ? 1 : 2 * n - 2;
        };
    }

    int classes(int slot) {
        return held(slot) ? classesOf(slots[slot]).size() : BAD;
    }

    int classOf(int slot, int member) {
        return member(slot, member) ? classAt(slots[slot], member) : BAD;
    }

    private boolean hasClass(int slot, int k) {
        return held(slot) && k >= 0 && k < classes(slot);
    }

    int ofClass(int slot, int k, int what) {
        if (!hasClass(slot, k)) {
            return BAD;
        }
        boolean[][] t = slots[slot];
        List<List<Integer>> all = classesOf(t);
        List<Integer> members = all.get(k);
        return switch (what) {
            case 0 -> members.get(0);
            case 1 -> members.size();
            case 2 -> classPeriod(t, members);
            case 3 -> girth(t, members);
            case 4 -> level(t, all, k);
            case 5 -> members.stream().mapToInt(i -> 1 << i).sum();
            case 6 -> Integer.bitCount(below(t, all, k));
            case 7 -> below(t, all, k);
            default -> BAD;
        };
    }

    int part(int slot, int member) {
        if (!member(slot, member)) {
            return BAD;
        }
        List<Integer> members = classesOf(slots[slot]).get(classOf(slot, member));
        return classPeriod(slots[slot], members) == 0 ? BY_NOUGHT : partOf(slots[slot], members, member);
    }

    int parts(int slot, int k, int part) {
        if (!hasClass(slot, k)) {
            return BAD;
        }
        List<Integer> members = classesOf(slots[slot]).get(k);
        int period = classPeriod(slots[slot], members);
        if (period == 0) {
            return BY_NOUGHT;
        }
        if (part < 0 || part >= period) {
            return BAD;
        }
        int set = 0;
        for (int i : members) {
            set |= partOf(slots[slot], members, i) == part ? 1 << i : 0;
        }
        return set;
    }

    int rest(int slot, int k, int d) {
        if (!hasClass(slot, k)) {
            return BAD;
        }
        int period = classPeriod(slots[slot], classesOf(slots[slot]).get(k));
        return period == 0 ? BY_NOUGHT : (int) ((d + (1L << 31) * period) % period);
    }

    int space(int slot, int what) {
        if (!held(slot)) {
            return BAD;
        }
        boolean[][] t = slots[slot];
        return switch (what) {
            case 0 -> spaceOf(t).size();
            case 1 -> basisOf(t).size();
            case 2 -> spaceOf(transpose(t)).size();
            case 3 -> basisOf(transpose(t)).size();
            case 4 -> regular(t) ? 1 : 0;
            default -> BAD;
        };
    }

    int basis(int slot, int i) {
        if (!held(slot)) {
            return BAD;
        }
        List<Integer> found = basisOf(slots[slot]);
        return i < 0 || i >= found.size() ? NONE : found.get(i);
    }

    int spans(int slot, int set) {
        if (!held(slot) || set < 0 || set >= 1 << slots[slot].length) {
            return BAD;
        }
        return spaceOf(slots[slot]).contains(set) ? 1 : 0;
    }

    int alike(int a, int b, int what) {
        if (!held(a) || !held(b) || what != 0 && what != 1) {
            return BAD;
        }
        if (slots[a].length != slots[b].length) {
            return UNLIKE;
        }
        boolean[][] first = what == 0 ? slots[a] : transpose(slots[a]);
        boolean[][] second = what == 0 ? slots[b] : transpose(slots[b]);
        return spaceOf(first).equals(spaceOf(second)) ? 1 : 0;
    }

    int roots(int slot, int d) {
        if (!held(slot) || d < 2 || d > 8) {
            return BAD;
        }
        return slots[slot].length > 4 ? LARGE : rootsOf(slots[slot], d)[0];
    }

    int root(int slot, int d, int to) {
        if (!held(slot) || d < 2 || d > 8 || !slot(to)) {
            return BAD;
        }
        if (slots[slot].length > 4) {
            return LARGE;
        }
        int least = rootsOf(slots[slot], d)[1];
        if (least >= 0) {
            give(to, numbered(slots[slot].length, least));
        }
        return least;
    }

    int link(int kind, int m) {
        boolean good = switch (kind) {
            case 0, 1, 5 -> true;
            case 2, 6 -> held(m);
            case 3 -> slot(m);
            case 4 -> m >= 0 && m <= 99;
            default -> false;
        };
        if (!good) {
            return BAD;
        }
        if (links.size() == 8) {
            return FULL;
        }
        links.add(new Link(kind, m, kind == 2 || kind == 6 ? slots[m] : null));
        return links.size();
    }

    /** What comes of a run, or null where it stopped: closings and reasons tell the rest. */
    private boolean[][] goThrough(boolean[][] start) {
        closings = new ArrayList<>();
        reasons = new ArrayList<>();
        boolean[][] t = start;
        for (int place = 0; place < links.size(); place++) {
            closings.add(0, place);
            Link link = links.get(place);
            boolean[][] other = link.kind == 3 ? slots[link.m] : link.held;
            if ((link.kind == 2 || link.kind == 3 || link.kind == 6) && (other == null || other.length != t.length)) {
                reasons = List.of(place, link.kind, other == null ? 100 + link.m : other.length);
                return null;
            }
            t = switch (link.kind) {
                case 0 -> transpose(t);
                case 1 -> complement(t);
                case 2 -> product(t, other);
                case 3 -> sum(t, other);
                case 4 -> power(t, link.m);
                case 5 -> closure(t);
                default -> meet(t, other);
            };
        }
        return t;
    }

    int run(int slot) {
        if (!held(slot)) {
            return BAD;
        }
        boolean[][] t = goThrough(slots[slot]);
        return t == null ? -20 - reasons.get(0) : give(slot, t);
    }

    int would(int slot) {
        if (!held(slot)) {
            return BAD;
        }
        boolean[][] t = goThrough(slots[slot]);
        return t == null ? -20 - reasons.get(0) : ones(t);
    }

    int closing(int i) {
        return i < 0 || i >= closings.size() ? NONE : closings.get(i);
    }

    int reason(int i) {
        return i < 0 || i >= reasons.size() ? NONE : reasons.get(i);
    }

    int loosen() {
        int had = links.size();
        links.clear();
        return had;
    }

    int undo() {
        if (log.isEmpty()) {
            return NONE;
        }
        Note latest = log.remove(log.size() - 1);
        slots[latest.slot] = latest.held;
        return latest.slot;
    }

    int sheet(int sheet, int sort, int n) {
        if (!isSheet(sheet) || sort < -1 || sort > 1 || sort >= 0 && n > 40) {
            return BAD;
        }
        if (sort >= 0 && n < 0) {
            return SIZE;
        }
        sheets[sheet] = sort < 0 ? null : new Number[n];
        sorts[sheet] = sort;
        if (sort >= 0) {
            Arrays.fill(sheets[sheet], (Number) 0);
        }
        return 1;
    }

    int cell(int sheet, int i, int v) {
        if (!isSheet(sheet)) {
            return BAD;
        }
        if (sheets[sheet] == null) {
            return NOTHING;
        }
        if (i < 0 || i >= sheets[sheet].length) {
            return OUTSIDE;
        }
        sheets[sheet][i] = sorts[sheet] == 0 ? (Number) (byte) v : (Number) v;
        return 1;
    }

    long item(int sheet, int i) {
        boolean there = isSheet(sheet) && sheets[sheet] != null && i >= 0 && i < sheets[sheet].length;
        return there ? sheets[sheet][i].longValue() : Long.MIN_VALUE;
    }

    int shift(int sheet, int i, int other, int j, int n) {
        if (!isSheet(sheet) || !isSheet(other)) {
            return BAD;
        }
        if (sheets[sheet] == null || sheets[other] == null) {
            return NOTHING;
        }
        if (sorts[sheet] != sorts[other]) {
            return SORT;
        }
        if (n < 0 || i < 0 || j < 0 || (long) i + n > sheets[sheet].length || (long) j + n > sheets[other].length) {
            return OUTSIDE;
        }
        Number[] were = Arrays.copyOfRange(sheets[sheet], i, i + n);
        for (int k = 0; k < n; k++) {
            sheets[other][j + k] = were[k];
        }
        return n;
    }

    int count(int what) {
        int sum = 0;
        switch (what) {
            case 0:
                for (boolean[][] t : slots) {
                    sum += t == null ? 0 : 1;
                }
                return sum;
            case 1:
                return links.size();
            case 2:
                return log.size();
            case 3:
                for (Number[] one : sheets) {
                    sum += one == null ? 0 : 1;
                }
                return sum;
            case 4:
                return 0;
            default:
                return BAD;
        }
    }
}
