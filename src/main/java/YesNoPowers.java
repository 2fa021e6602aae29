/** Tables of yes and no, their powers, classes, spaces and roots, and a chain of links that a table goes through. */
public final class YesNoPowers {
    public static final int BAD = -1, NONE = -2, UNLIKE = -3, FULL = -4, LARGE = -5, NOTHING = -11, OUTSIDE = -12, SORT = -13, SIZE = -14, BY_NOUGHT = -15;

    private static final int SLOTS = 6;
    private static final int SHEETS = 4;
    private static final int MOST_POWER = 1000000;
    private static final int MOST_REACHED = 1000;
    private static final int LEAST_DEGREE = 2;
    private static final int MOST_DEGREE = 8;
    private static final int MOST_ROOT_SIZE = 4;
    private static final int STOPPED = -20;
    private static final long NO_ITEM = -9223372036854775808L;

    private final Table[] slots = new Table[SLOTS];
    private final Sheet[] sheets = new Sheet[SHEETS];
    private final Log log = new Log();
    private final Powers powers = new Powers();
    private final Rings rings = new Rings();
    private final Spaces spaces = new Spaces();
    private final Chain chain = new Chain();
    /** What a call makes, before a slot takes it over: so a slot may be read and written by one call. */
    private final Table made = new Table();

    public YesNoPowers() {
        for (int slot = 0; slot < SLOTS; slot++) {
            slots[slot] = new Table();
        }
        for (int sheet = 0; sheet < SHEETS; sheet++) {
            sheets[sheet] = new Sheet();
        }
    }

    // ---- tables

    public int make(int slot, int n, int what) {
        if (noSlot(slot) || noSize(n) || outOf(what, 0, 4) || (what == 4 && n == 1)) {
            return BAD;
        }
        made.becomePlain(n, what);
        return hold(slot);
    }

    public int put(int slot, int i, int j, int v) {
        if (noMember(slot, i) || noMember(slot, j) || outOf(v, 0, 1)) {
            return BAD;
        }
        made.become(slots[slot]);
        int was = made.entry(i, j);
        made.rows[i] = v == 1 ? made.rows[i] | (1 << j) : made.rows[i] & ~(1 << j);
        hold(slot);
        return was;
    }

    public int at(int slot, int i, int j) {
        if (noMember(slot, i) || noMember(slot, j)) {
            return BAD;
        }
        return slots[slot].entry(i, j);
    }

    public int line(int slot, int way, int i) {
        if (noMember(slot, i) || outOf(way, 0, 1)) {
            return BAD;
        }
        return way == 0 ? slots[slot].rows[i] : slots[slot].column(i);
    }

    public int setRow(int slot, int i, int set) {
        if (noMember(slot, i) || slots[slot].lacksColumnOf(set)) {
            return BAD;
        }
        made.become(slots[slot]);
        int was = made.rows[i];
        made.rows[i] = set;
        hold(slot);
        return was;
    }

    public int times(int a, int b, int to) {
        if (noTable(a) || noTable(b) || noSlot(to)) {
            return BAD;
        }
        if (slots[a].n != slots[b].n) {
            return UNLIKE;
        }
        made.become(slots[a]);
        made.multiplyBy(slots[b]);
        return hold(to);
    }

    public int plus(int a, int b, int to) {
        if (noTable(a) || noTable(b) || noSlot(to)) {
            return BAD;
        }
        if (slots[a].n != slots[b].n) {
            return UNLIKE;
        }
        made.become(slots[a]);
        made.join(slots[b]);
        return hold(to);
    }

    public int power(int a, int k, int to) {
        if (noTable(a) || outOf(k, 0, MOST_POWER) || noSlot(to)) {
            return BAD;
        }
        powers.raise(slots[a], k, made);
        return hold(to);
    }

    public int derive(int a, int what, int to) {
        if (noTable(a) || outOf(what, 0, 4) || noSlot(to)) {
            return BAD;
        }
        Table table = slots[a];
        if (what == 1) {
            made.turn(table);
        } else if (what == 4) {
            spaces.findGreatest(table, made);
        } else {
            made.become(table);
        }
        if (what == 2) {
            made.negate();
        } else if (what == 3) {
            made.close();
        }
        return hold(to);
    }

    public int clear(int slot) {
        if (noSlot(slot)) {
            return BAD;
        }
        int had = slots[slot].n;
        if (had > 0) {
            made.n = 0;
            hold(slot);
        }
        return had;
    }

    public int same(int a, int b) {
        if (noTable(a) || noTable(b)) {
            return BAD;
        }
        return slots[a].isLike(slots[b]) ? 1 : 0;
    }

    public int load(int slot, int sheet, int from, int n) {
        if (noSlot(slot) || noSheet(sheet) || noSize(n)) {
            return BAD;
        }
        Sheet source = sheets[sheet];
        if (source.isMissing()) {
            return NOTHING;
        }
        if (source.lacks(from, n)) {
            return OUTSIDE;
        }
        made.n = n;
        for (int i = 0; i < n; i++) {
            int row = source.rowAt(from + i);
            if (made.lacksColumnOf(row)) {
                return BAD;
            }
            made.rows[i] = row;
        }
        return hold(slot);
    }

    public int spill(int slot, int sheet, int from) {
        if (noTable(slot) || noSheet(sheet)) {
            return BAD;
        }
        Sheet target = sheets[sheet];
        if (target.isMissing()) {
            return NOTHING;
        }
        if (target.lacks(from, 0)) {
            return OUTSIDE;
        }
        int spilt = Math.min(slots[slot].n, target.length - from);
        for (int i = 0; i < spilt; i++) {
            target.write(from + i, slots[slot].rows[i]);
        }
        return spilt;
    }

    // ---- powers

    public int told(int slot, int what) {
        if (noSlot(slot) || outOf(what, 0, 7)) {
            return BAD;
        }
        Table table = slots[slot];
        if (what == 0) {
            return table.n;
        }
        if (table.n == 0) {
            return BAD;
        }
        if (what == 4) {
            return powers.exponent(table);
        }
        if (what == 5) {
            return table.ones();
        }
        if (what == 6) {
            return isOwnSquare(table) ? 1 : 0;
        }
        if (what == 7) {
            return isOwnTranspose(table) ? 1 : 0;
        }
        powers.findCycle(table);
        return what == 1 ? powers.index : what == 2 ? powers.period : powers.idempotent();
    }

    public int reaches(int a, int b) {
        if (noTable(a) || noTable(b)) {
            return BAD;
        }
        if (slots[a].n != slots[b].n) {
            return UNLIKE;
        }
        int k = powers.firstLike(slots[a], slots[b], MOST_REACHED);
        return k == 0 ? NONE : k;
    }

    public int bound(int slot, int what) {
        if (noTable(slot) || outOf(what, 0, 3)) {
            return BAD;
        }
        Table table = slots[slot];
        int n = table.n;
        if (powers.exponent(table) == 0) {
            return NONE;
        }
        if (what == 0) {
            return (n - 1) * (n - 1) + 1;
        }
        if (what == 1) {
            // A primitive table is all one class, so class 0 has the least girth.
            rings.read(table);
            return n + rings.girth[0] * (n - 2);
        }
        if (what == 2) {
            int loops = table.loops();
            return loops == 0 ? NONE : 2 * n - loops - 1;
        }
        if (!isOwnTranspose(table)) {
            return NONE;
        }
        return n == 1 ? 1 : 2 * n - 2;
    }

    // ---- classes

    public int classes(int slot) {
        if (noTable(slot)) {
            return BAD;
        }
        rings.read(slots[slot]);
        return rings.number;
    }

    public int classOf(int slot, int member) {
        if (noMember(slot, member)) {
            return BAD;
        }
        rings.read(slots[slot]);
        return rings.home[member];
    }

    public int ofClass(int slot, int k, int what) {
        if (outOf(what, 0, 7) || !readsClass(slot, k)) {
            return BAD;
        }
        switch (what) {
            case 0:
                return rings.least[k];
            case 1:
                return Integer.bitCount(rings.members[k]);
            case 2:
                return rings.period[k];
            case 3:
                return rings.girth[k];
            case 4:
                return rings.level[k];
            case 5:
                return rings.members[k];
            case 6:
                return Integer.bitCount(rings.below[k]);
            default:
                return rings.below[k];
        }
    }

    public int part(int slot, int member) {
        if (noMember(slot, member)) {
            return BAD;
        }
        rings.read(slots[slot]);
        if (rings.period[rings.home[member]] == 0) {
            return BY_NOUGHT;
        }
        return rings.partOf(member);
    }

    public int parts(int slot, int k, int part) {
        if (!readsClass(slot, k)) {
            return BAD;
        }
        int period = rings.period[k];
        if (period == 0) {
            return BY_NOUGHT;
        }
        if (outOf(part, 0, period - 1)) {
            return BAD;
        }
        int found = 0;
        for (int i = 0; i < slots[slot].n; i++) {
            if (rings.home[i] == k && rings.partOf(i) == part) {
                found |= 1 << i;
            }
        }
        return found;
    }

    public int rest(int slot, int k, int d) {
        if (!readsClass(slot, k)) {
            return BAD;
        }
        int period = rings.period[k];
        if (period == 0) {
            return BY_NOUGHT;
        }
        return Math.floorMod(d, period);
    }

    // ---- spaces

    public int space(int slot, int what) {
        if (noTable(slot) || outOf(what, 0, 4)) {
            return BAD;
        }
        Table table = slots[slot];
        if (what == 4) {
            return spaces.isRegular(table) ? 1 : 0;
        }
        made.become(table);
        if (what > 1) {
            made.turn(table);
        }
        return what == 0 || what == 2 ? spaces.unionsOf(made) : spaces.basisSize(made);
    }

    public int basis(int slot, int i) {
        if (noTable(slot)) {
            return BAD;
        }
        if (i < 0 || i >= spaces.basisSize(slots[slot])) {
            return NONE;
        }
        int row = 0;
        for (int passed = 0; passed <= i; passed++) {
            row = spaces.nextOfBasis(slots[slot], row);
        }
        return row;
    }

    public int spans(int slot, int set) {
        if (noTable(slot) || slots[slot].lacksColumnOf(set)) {
            return BAD;
        }
        return spaces.hasUnion(slots[slot], set) ? 1 : 0;
    }

    public int alike(int a, int b, int what) {
        if (noTable(a) || noTable(b) || outOf(what, 0, 1)) {
            return BAD;
        }
        if (slots[a].n != slots[b].n) {
            return UNLIKE;
        }
        return spaces.areAlike(slots[a], slots[b], what == 1) ? 1 : 0;
    }

    // ---- roots

    public int roots(int slot, int d) {
        if (noTable(slot) || outOf(d, LEAST_DEGREE, MOST_DEGREE)) {
            return BAD;
        }
        Table table = slots[slot];
        if (table.n > MOST_ROOT_SIZE) {
            return LARGE;
        }
        return Roots.countOf(table.n, d, table.number());
    }

    public int root(int slot, int d, int to) {
        if (noTable(slot) || outOf(d, LEAST_DEGREE, MOST_DEGREE) || noSlot(to)) {
            return BAD;
        }
        Table table = slots[slot];
        if (table.n > MOST_ROOT_SIZE) {
            return LARGE;
        }
        int number = Roots.leastOf(table.n, d, table.number());
        if (number < 0) {
            return NONE;
        }
        made.becomeNumbered(table.n, number);
        hold(to);
        return number;
    }

    // ---- the chain

    public int link(int kind, int m) {
        if (outOf(kind, 0, 6) || badForKind(kind, m)) {
            return BAD;
        }
        if (chain.isFull()) {
            return FULL;
        }
        chain.append(kind, m, slots);
        return chain.length;
    }

    public int run(int slot) {
        if (noTable(slot)) {
            return BAD;
        }
        int stop = chain.pass(slots[slot], slots);
        if (stop >= 0) {
            return STOPPED - stop;
        }
        made.become(chain.moving);
        return hold(slot);
    }

    public int would(int slot) {
        if (noTable(slot)) {
            return BAD;
        }
        int stop = chain.pass(slots[slot], slots);
        return stop >= 0 ? STOPPED - stop : chain.moving.ones();
    }

    public int closing(int i) {
        return i < 0 || i >= chain.closed ? NONE : chain.closings[i];
    }

    public int reason(int i) {
        return i < 0 || i >= chain.reasonsGiven ? NONE : chain.reasons[i];
    }

    public int loosen() {
        int had = chain.length;
        chain.length = 0;
        return had;
    }

    public int undo() {
        if (log.size == 0) {
            return NONE;
        }
        int slot = log.latestSlot();
        slots[slot].become(log.latestTable());
        log.dropLatest();
        return slot;
    }

    // ---- sheets, counts

    public int sheet(int sheet, int sort, int n) {
        if (noSheet(sheet) || outOf(sort, -1, 1)) {
            return BAD;
        }
        if (sort == -1) {
            sheets[sheet].begin(-1, 0);
            return 1;
        }
        if (n > Sheet.MOST) {
            return BAD;
        }
        if (n < 0) {
            return SIZE;
        }
        sheets[sheet].begin(sort, n);
        return 1;
    }

    public int cell(int sheet, int i, int v) {
        if (noSheet(sheet)) {
            return BAD;
        }
        if (sheets[sheet].isMissing()) {
            return NOTHING;
        }
        if (sheets[sheet].lacks(i, 1)) {
            return OUTSIDE;
        }
        sheets[sheet].write(i, v);
        return 1;
    }

    public long item(int sheet, int i) {
        if (noSheet(sheet) || sheets[sheet].isMissing() || sheets[sheet].lacks(i, 1)) {
            return NO_ITEM;
        }
        return sheets[sheet].numbers[i];
    }

    public int shift(int sheet, int i, int other, int j, int n) {
        if (noSheet(sheet) || noSheet(other)) {
            return BAD;
        }
        Sheet source = sheets[sheet];
        Sheet target = sheets[other];
        if (source.isMissing() || target.isMissing()) {
            return NOTHING;
        }
        if (source.sort != target.sort) {
            return SORT;
        }
        if (source.lacks(i, n) || target.lacks(j, n)) {
            return OUTSIDE;
        }
        System.arraycopy(source.numbers, i, target.numbers, j, n);
        return n;
    }

    public int count(int what) {
        switch (what) {
            case 0:
                return heldTables();
            case 1:
                return chain.length;
            case 2:
                return log.size;
            case 3:
                return presentSheets();
            case 4:
                return chain.borrowed;
            default:
                return BAD;
        }
    }

    // ---- what the calls share

    private static boolean outOf(int number, int least, int most) {
        return number < least || number > most;
    }

    private static boolean noSlot(int slot) {
        return outOf(slot, 0, SLOTS - 1);
    }

    private static boolean noSheet(int sheet) {
        return outOf(sheet, 0, SHEETS - 1);
    }

    private static boolean noSize(int n) {
        return outOf(n, 1, Table.MOST);
    }

    private boolean noTable(int slot) {
        return noSlot(slot) || slots[slot].n == 0;
    }

    private boolean noMember(int slot, int i) {
        return noTable(slot) || outOf(i, 0, slots[slot].n - 1);
    }

    /** Whether the slot's table has class k; if it has, rings tell of that table. */
    private boolean readsClass(int slot, int k) {
        if (noTable(slot)) {
            return false;
        }
        rings.read(slots[slot]);
        return k >= 0 && k < rings.number;
    }

    private boolean badForKind(int kind, int m) {
        switch (kind) {
            case Chain.PRODUCT:
            case Chain.MEET:
                return noTable(m);
            case Chain.SUM:
                return noSlot(m);
            case Chain.POWER:
                return outOf(m, 0, Chain.MOST_LINK_POWER);
            default:
                return false;
        }
    }

    /** The slot takes over what was made, and the log keeps what it held: the n it has now. */
    private int hold(int slot) {
        log.note(slot, slots[slot]);
        slots[slot].become(made);
        return made.n;
    }

    private boolean isOwnSquare(Table table) {
        made.become(table);
        made.multiplyBy(table);
        return made.isLike(table);
    }

    private boolean isOwnTranspose(Table table) {
        made.turn(table);
        return made.isLike(table);
    }

    private int heldTables() {
        int held = 0;
        for (int slot = 0; slot < SLOTS; slot++) {
            if (slots[slot].n > 0) {
                held++;
            }
        }
        return held;
    }

    private int presentSheets() {
        int present = 0;
        for (int sheet = 0; sheet < SHEETS; sheet++) {
            if (!sheets[sheet].isMissing()) {
                present++;
            }
        }
        return present;
    }

    /** A table of n rows, each told as bits; with n of 0 it is nothing. */
    private static final class Table {
        static final int MOST = 12;

        int n;
        final int[] rows = new int[MOST];

        int allColumns() {
            return (1 << n) - 1;
        }

        boolean lacksColumnOf(int set) {
            return (set & ~allColumns()) != 0;
        }

        int entry(int i, int j) {
            return (rows[i] >> j) & 1;
        }

        int column(int j) {
            int set = 0;
            for (int i = 0; i < n; i++) {
                set |= entry(i, j) << i;
            }
            return set;
        }

        int ones() {
            int sum = 0;
            for (int i = 0; i < n; i++) {
                sum += Integer.bitCount(rows[i]);
            }
            return sum;
        }

        int loops() {
            int sum = 0;
            for (int i = 0; i < n; i++) {
                sum += entry(i, i);
            }
            return sum;
        }

        boolean isEverywhere() {
            for (int i = 0; i < n; i++) {
                if (rows[i] != allColumns()) {
                    return false;
                }
            }
            return true;
        }

        boolean isLike(Table other) {
            if (n != other.n) {
                return false;
            }
            for (int i = 0; i < n; i++) {
                if (rows[i] != other.rows[i]) {
                    return false;
                }
            }
            return true;
        }

        /** Its rows in one number, for tables of few rows. */
        int number() {
            int sum = 0;
            for (int i = 0; i < n && i < MOST_ROOT_SIZE; i++) {
                sum |= rows[i] << (n * i);
            }
            return sum;
        }

        void becomeNumbered(int size, int number) {
            n = size;
            for (int i = 0; i < n && i < MOST_ROOT_SIZE; i++) {
                rows[i] = (number >> (n * i)) & allColumns();
            }
        }

        void become(Table other) {
            n = other.n;
            for (int i = 0; i < n; i++) {
                rows[i] = other.rows[i];
            }
        }

        /** What 0 to 4 are those of make(). */
        void becomePlain(int size, int what) {
            n = size;
            for (int i = 0; i < n; i++) {
                int next = i == n - 1 ? 0 : i + 1;
                rows[i] = what == 0 ? 0 : what == 1 ? allColumns() : what == 2 ? 1 << i : 1 << next;
            }
            if (what == 4 && n > 1) {
                rows[n - 1] |= 2;
            }
        }

        void join(Table other) {
            for (int i = 0; i < n; i++) {
                rows[i] |= other.rows[i];
            }
        }

        void meet(Table other) {
            for (int i = 0; i < n; i++) {
                rows[i] &= other.rows[i];
            }
        }

        void negate() {
            for (int i = 0; i < n; i++) {
                rows[i] = ~rows[i] & allColumns();
            }
        }

        /** Becomes the transpose of a table that is not this one. */
        void turn(Table other) {
            n = other.n;
            for (int i = 0; i < n; i++) {
                rows[i] = other.column(i);
            }
        }

        /** Becomes this times a table that is not this one: only then are all its rows still there. */
        void multiplyBy(Table other) {
            for (int i = 0; i < n; i++) {
                int row = 0;
                for (int k = 0; k < n; k++) {
                    if (entry(i, k) == 1) {
                        row |= other.rows[k];
                    }
                }
                rows[i] = row;
            }
        }

        /** Becomes its closure: ways by way of k are joined in, for one k after the other. */
        void close() {
            for (int k = 0; k < n; k++) {
                for (int i = 0; i < n; i++) {
                    if (entry(i, k) == 1) {
                        rows[i] |= rows[k];
                    }
                }
            }
        }
    }

    /** Goes along the powers of a table. */
    private static final class Powers {
        /** Above any index and period together: the index is 122 at most, the period 60. */
        static final int MOST_STEPS = 1000;
        /** The powers that are asked for stay below 2 to this. */
        static final int POWER_BITS = 20;

        int index;
        int period;
        private final Table walker = new Table();
        private final Table mark = new Table();

        /** The result, a table that is not the base, becomes power k of the base. */
        void raise(Table base, int k, Table result) {
            result.becomePlain(base.n, 2);
            walker.become(base);
            for (int bit = 0; bit < POWER_BITS; bit++) {
                if (((k >> bit) & 1) == 1) {
                    result.multiplyBy(walker);
                }
                mark.become(walker);
                walker.multiplyBy(mark);
            }
        }

        void findCycle(Table base) {
            findPeriod(base);
            findIndex(base);
        }

        /** The mark stays at powers 1, 2, 4, .. : once it stands in the cycle, the walker comes back to it. */
        private void findPeriod(Table base) {
            period = 1;
            walker.become(base);
            mark.become(base);
            int marked = 1;
            for (int k = 2; k < MOST_STEPS; k++) {
                walker.multiplyBy(base);
                if (walker.isLike(mark)) {
                    period = k - marked;
                    return;
                }
                if (k == 2 * marked) {
                    mark.become(walker);
                    marked = k;
                }
            }
        }

        /** The walker goes ahead of the mark by one period: where they first agree, the cycle begins. */
        private void findIndex(Table base) {
            index = 1;
            walker.become(base);
            mark.become(base);
            for (int k = 0; k < period; k++) {
                walker.multiplyBy(base);
            }
            for (int k = 1; k < MOST_STEPS; k++) {
                if (walker.isLike(mark)) {
                    index = k;
                    return;
                }
                walker.multiplyBy(base);
                mark.multiplyBy(base);
            }
        }

        /** Power 2 k is power k just where k is in the cycle and a multiple of the period. */
        int idempotent() {
            int k = period;
            for (int step = 0; step < MOST_STEPS && k < index; step++) {
                k += period;
            }
            return k;
        }

        /** The exponent, 0 if there is none: none is above (n - 1)(n - 1) + 1. */
        int exponent(Table base) {
            walker.become(base);
            int most = (base.n - 1) * (base.n - 1) + 1;
            for (int k = 1; k <= most; k++) {
                if (walker.isEverywhere()) {
                    return k;
                }
                walker.multiplyBy(base);
            }
            return 0;
        }

        /** The least k of 1 .. most whose power is like the goal, or 0; it ends early when the powers come round. */
        int firstLike(Table base, Table goal, int most) {
            walker.become(base);
            mark.become(base);
            int marked = 1;
            for (int k = 1; k <= most; k++) {
                if (walker.isLike(goal)) {
                    return k;
                }
                if (k > marked && walker.isLike(mark)) {
                    return 0;
                }
                if (k == 2 * marked) {
                    mark.become(walker);
                    marked = k;
                }
                walker.multiplyBy(base);
            }
            return 0;
        }
    }

    /** The classes of a table, and what is told of them. */
    private static final class Rings {
        int number;
        final int[] home = new int[Table.MOST];
        final int[] members = new int[Table.MOST];
        final int[] least = new int[Table.MOST];
        final int[] girth = new int[Table.MOST];
        final int[] period = new int[Table.MOST];
        final int[] level = new int[Table.MOST];
        final int[] below = new int[Table.MOST];
        private final int[] distance = new int[Table.MOST];
        private final Table reach = new Table();
        private final Table walks = new Table();

        void read(Table table) {
            findClasses(table);
            findGirths(table);
            findLevels(table);
            for (int k = 0; k < number; k++) {
                findDistances(table, k);
                findPeriod(table, k);
                findBelow(k);
            }
        }

        /** To be asked only where the period of the member's class is above 0; else it is 0. */
        int partOf(int member) {
            int divisor = period[home[member]];
            return divisor == 0 ? 0 : distance[member] % divisor;
        }

        private void findClasses(Table table) {
            reach.become(table);
            reach.close();
            number = 0;
            int placed = 0;
            for (int i = 0; i < table.n; i++) {
                if (((placed >> i) & 1) == 0) {
                    int set = (1 << i) | (reach.rows[i] & reach.column(i));
                    placed |= set;
                    least[number] = i;
                    members[number] = set;
                    settle(set, number);
                    number++;
                }
            }
        }

        private void settle(int set, int k) {
            for (int i = 0; i < Table.MOST; i++) {
                if (((set >> i) & 1) == 1) {
                    home[i] = k;
                }
            }
        }

        /** No girth is above n, for a shortest way back meets no member twice. */
        private void findGirths(Table table) {
            for (int k = 0; k < number; k++) {
                girth[k] = 0;
            }
            walks.become(table);
            for (int length = 1; length <= table.n; length++) {
                for (int i = 0; i < table.n; i++) {
                    if (walks.entry(i, i) == 1 && girth[home[i]] == 0) {
                        girth[home[i]] = length;
                    }
                }
                walks.multiplyBy(table);
            }
        }

        /** A level is less than the number of classes, so that many rounds raise all of them to the full. */
        private void findLevels(Table table) {
            for (int k = 0; k < number; k++) {
                level[k] = 0;
            }
            for (int round = 0; round < number; round++) {
                for (int i = 0; i < table.n; i++) {
                    raiseLevels(table, i);
                }
            }
        }

        private void raiseLevels(Table table, int i) {
            for (int j = 0; j < table.n; j++) {
                if (table.entry(i, j) == 1 && home[i] != home[j] && level[home[j]] <= level[home[i]]) {
                    level[home[j]] = level[home[i]] + 1;
                }
            }
        }

        /** How many steps each member is away from the least one of its class. */
        private void findDistances(Table table, int k) {
            int seen = 0;
            int front = 1 << least[k];
            for (int steps = 0; steps < table.n && front != 0; steps++) {
                int next = 0;
                for (int i = 0; i < table.n; i++) {
                    if (((front >> i) & 1) == 1) {
                        distance[i] = steps;
                        next |= table.rows[i];
                    }
                }
                seen |= front;
                front = next & members[k] & ~seen;
            }
        }

        /** The lengths of all ways back are made up of what each step inside the class gains or loses. */
        private void findPeriod(Table table, int k) {
            int divisor = 0;
            for (int i = 0; i < table.n; i++) {
                for (int j = 0; j < table.n; j++) {
                    if (home[i] == k && home[j] == k && table.entry(i, j) == 1) {
                        divisor = commonDivisor(Math.abs(distance[i] + 1 - distance[j]), divisor);
                    }
                }
            }
            period[k] = divisor;
        }

        private static int commonDivisor(int a, int b) {
            int more = a;
            int less = b;
            for (int step = 0; step < Table.MOST && less != 0; step++) {
                int left = more % less;
                more = less;
                less = left;
            }
            return more;
        }

        private void findBelow(int k) {
            int found = 0;
            for (int other = 0; other < number; other++) {
                if (other != k && reach.entry(least[k], least[other]) == 1) {
                    found |= 1 << other;
                }
            }
            below[k] = found;
        }
    }

    /** The unions of a table's rows, and whether it is regular. */
    private static final class Spaces {
        private final Table turned = new Table();
        private final Table turnedOther = new Table();
        private final Table opposite = new Table();
        private final Table greatest = new Table();
        private final Table product = new Table();

        /** A set is a union of rows just where the rows that lie in it make it up. */
        boolean hasUnion(Table table, int set) {
            int union = 0;
            for (int i = 0; i < table.n; i++) {
                if ((table.rows[i] & ~set) == 0) {
                    union |= table.rows[i];
                }
            }
            return union == set;
        }

        int unionsOf(Table table) {
            int found = 0;
            int all = table.allColumns();
            for (int set = 0; set <= all; set++) {
                if (hasUnion(table, set)) {
                    found++;
                }
            }
            return found;
        }

        int basisSize(Table table) {
            int size = 0;
            int row = nextOfBasis(table, 0);
            for (int step = 0; step < Table.MOST && row != 0; step++) {
                size++;
                row = nextOfBasis(table, row);
            }
            return size;
        }

        /** The least one of the basis whose number is above a number, or 0. */
        int nextOfBasis(Table table, int above) {
            int next = 0;
            for (int i = 0; i < table.n; i++) {
                int row = table.rows[i];
                if (row > above && (next == 0 || row < next) && !isMadeUp(table, row)) {
                    next = row;
                }
            }
            return next;
        }

        /** Whether a row is the union of those in it that are unlike it. */
        private boolean isMadeUp(Table table, int row) {
            int union = 0;
            for (int i = 0; i < table.n; i++) {
                if (table.rows[i] != row && (table.rows[i] & ~row) == 0) {
                    union |= table.rows[i];
                }
            }
            return union == row;
        }

        boolean areAlike(Table a, Table b, boolean byColumns) {
            turned.become(a);
            turnedOther.become(b);
            if (byColumns) {
                turned.turn(a);
                turnedOther.turn(b);
            }
            return spansRows(turned, turnedOther) && spansRows(turnedOther, turned);
        }

        private boolean spansRows(Table table, Table other) {
            for (int i = 0; i < other.n; i++) {
                if (!hasUnion(table, other.rows[i])) {
                    return false;
                }
            }
            return true;
        }

        /** The result, a table that is not this one, becomes the greatest x. */
        void findGreatest(Table table, Table result) {
            turned.turn(table);
            opposite.become(table);
            opposite.negate();
            result.become(turned);
            result.multiplyBy(opposite);
            result.multiplyBy(turned);
            result.negate();
        }

        /** If any x shows that a table is regular, the greatest one does. */
        boolean isRegular(Table table) {
            findGreatest(table, greatest);
            product.become(table);
            product.multiplyBy(greatest);
            product.multiplyBy(table);
            return product.isLike(table);
        }
    }

    /** Roots of tables of n up to 4, these being told by their numbers. */
    private static final class Roots {
        /** By n: the bits that stand for column 0. */
        private static final int[] ROW_STARTS = {0, 0x1, 0x5, 0x49, 0x1111};

        static int countOf(int n, int d, int goal) {
            return countBelow(n, d, goal, 0, n * n);
        }

        /** The least root's number, or -1. */
        static int leastOf(int n, int d, int goal) {
            return leastBelow(n, d, goal, 0, n * n);
        }

        /**
         * How many roots there are among the numbers that have the fixed bits and any of the open lowest ones.
         * A table's power has all that a lesser table's power has: so the least and the greatest of these
         * numbers often settle it for all of them. With no bit open the two are one.
         */
        private static int countBelow(int n, int d, int goal, int fixed, int open) {
            int least = raised(n, d, fixed);
            int most = raised(n, d, fixed | ((1 << open) - 1));
            if ((least & ~goal) != 0 || (goal & ~most) != 0) {
                return 0;
            }
            if (least == most || open <= 0) {
                return 1 << open;
            }
            return countBelow(n, d, goal, fixed, open - 1) + countBelow(n, d, goal, fixed | (1 << (open - 1)), open - 1);
        }

        /** The least root among those numbers, or -1. */
        private static int leastBelow(int n, int d, int goal, int fixed, int open) {
            int least = raised(n, d, fixed);
            int most = raised(n, d, fixed | ((1 << open) - 1));
            if ((least & ~goal) != 0 || (goal & ~most) != 0) {
                return -1;
            }
            if (least == goal || open <= 0) {
                return fixed;
            }
            int found = leastBelow(n, d, goal, fixed, open - 1);
            return found >= 0 ? found : leastBelow(n, d, goal, fixed | (1 << (open - 1)), open - 1);
        }

        private static int raised(int n, int d, int number) {
            int result = number;
            // The bits of d below its highest one, from the top down.
            for (int bit = d < 4 ? 0 : d < 8 ? 1 : 2; bit >= 0; bit--) {
                result = product(n, result, result);
                if (((d >> bit) & 1) == 1) {
                    result = product(n, result, number);
                }
            }
            return result;
        }

        /** For each k, row k of b is set down, by one multiplication, in all rows of the result whose row in a has k. */
        private static int product(int n, int a, int b) {
            int row = (1 << n) - 1;
            int result = 0;
            for (int k = 0; k < n; k++) {
                result |= ((a >> k) & ROW_STARTS[n]) * ((b >> (n * k)) & row);
            }
            return result;
        }
    }

    /** One link of the chain; it keeps a table of its own where it needs what a slot held as it came. */
    private static final class Link {
        int kind;
        int m;
        final Table held = new Table();
    }

    /** The chain, and what its latest run left behind. */
    private static final class Chain {
        static final int MOST = 8;
        static final int MOST_LINK_POWER = 99;
        static final int TRANSPOSE = 0;
        static final int COMPLEMENT = 1;
        static final int PRODUCT = 2;
        static final int SUM = 3;
        static final int POWER = 4;
        static final int CLOSURE = 5;
        static final int MEET = 6;
        static final int REASONS = 3;
        static final int EMPTY_SLOT = 100;

        int length;
        int borrowed;
        int closed;
        int reasonsGiven;
        final int[] closings = new int[MOST];
        final int[] reasons = new int[REASONS];
        /** The table on its way through the links. */
        final Table moving = new Table();
        private final Table changed = new Table();
        private final Link[] links = new Link[MOST];
        private final int[] borrowings = new int[MOST];
        private final Powers powers = new Powers();

        Chain() {
            for (int i = 0; i < MOST; i++) {
                links[i] = new Link();
            }
        }

        boolean isFull() {
            return length >= MOST;
        }

        void append(int kind, int m, Table[] slots) {
            if (isFull()) {
                return;
            }
            Link link = links[length];
            link.kind = kind;
            link.m = m;
            if (kind == PRODUCT || kind == MEET) {
                link.held.become(slots[m]);
            }
            length++;
        }

        /** A run of a table: the place of the link where it stops, or -1. */
        int pass(Table start, Table[] slots) {
            closed = 0;
            reasonsGiven = 0;
            moving.become(start);
            int stop = -1;
            for (int place = 0; place < length && stop < 0; place++) {
                borrowings[borrowed] = place;
                borrowed++;
                Table other = partner(links[place], slots);
                if (other.n == moving.n) {
                    change(links[place], other);
                } else {
                    stop = place;
                    giveReasons(place, other);
                }
            }
            giveBack();
            return stop;
        }

        /** The table that a link brings in; where it brings in none, the one on its way itself. */
        private Table partner(Link link, Table[] slots) {
            if (link.kind == PRODUCT || link.kind == MEET) {
                return link.held;
            }
            return link.kind == SUM ? slots[link.m] : moving;
        }

        private void change(Link link, Table other) {
            switch (link.kind) {
                case TRANSPOSE:
                    changed.turn(moving);
                    moving.become(changed);
                    break;
                case COMPLEMENT:
                    moving.negate();
                    break;
                case PRODUCT:
                    moving.multiplyBy(other);
                    break;
                case SUM:
                    moving.join(other);
                    break;
                case POWER:
                    powers.raise(moving, link.m, changed);
                    moving.become(changed);
                    break;
                case CLOSURE:
                    moving.close();
                    break;
                default:
                    moving.meet(other);
                    break;
            }
        }

        private void giveReasons(int place, Table other) {
            Link link = links[place];
            reasons[0] = place;
            reasons[1] = link.kind;
            reasons[2] = other.n == 0 ? EMPTY_SLOT + link.m : other.n;
            reasonsGiven = REASONS;
        }

        private void giveBack() {
            for (int i = borrowed - 1; i >= 0; i--) {
                closings[closed] = borrowings[i];
                closed++;
                borrowed--;
            }
        }
    }

    /** What slots held ahead of the latest acts; when it is full, the oldest makes room. */
    private static final class Log {
        static final int MOST = 20;

        int size;
        private int next;
        private final int[] places = new int[MOST];
        private final Table[] tables = new Table[MOST];

        Log() {
            for (int i = 0; i < MOST; i++) {
                tables[i] = new Table();
            }
        }

        void note(int slot, Table held) {
            places[next] = slot;
            tables[next].become(held);
            next = next == MOST - 1 ? 0 : next + 1;
            size = Math.min(size + 1, MOST);
        }

        int latestSlot() {
            return places[latest()];
        }

        Table latestTable() {
            return tables[latest()];
        }

        void dropLatest() {
            if (size > 0) {
                next = latest();
                size--;
            }
        }

        private int latest() {
            return next == 0 ? MOST - 1 : next - 1;
        }
    }

    /** A row of numbers, of bytes (sort 0) or ints (sort 1), or missing (sort -1). */
    private static final class Sheet {
        static final int MOST = 40;

        int sort = -1;
        int length;
        final int[] numbers = new int[MOST];

        boolean isMissing() {
            return sort == -1;
        }

        void begin(int newSort, int n) {
            sort = newSort;
            length = n;
            for (int i = 0; i < length; i++) {
                numbers[i] = 0;
            }
        }

        /** Whether n numbers from one on are not all there; told without a sum that could wrap around. */
        boolean lacks(int from, int n) {
            return from < 0 || n < 0 || n > length || from > length - n;
        }

        void write(int i, int v) {
            numbers[i] = sort == 0 ? (byte) v : v;
        }

        /** A number as a row's bits: a byte's sign is no more than its bit 7. */
        int rowAt(int i) {
            return sort == 0 ? numbers[i] & 255 : numbers[i];
        }
    }
}
