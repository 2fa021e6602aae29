/** For each promise: ordinary calls, the edges that the document names, and wrong calls. */
public final class PromiseTest {
    private static final int LOW = Integer.MIN_VALUE;
    private static final int TOP = Integer.MAX_VALUE;
    private static int failed = 0;
    private static int passed = 0;
    private static int promise = 0;

    private static void due(String call, long got, long want) {
        if (got == want) {
            passed++;
        } else {
            failed++;
            System.out.println("promise " + promise + ": " + call + " answered " + got + ", due is " + want);
        }
    }

    public static void main(String[] args) {
        newObject();
        makes();
        puts();
        atsAndLines();
        setRows();
        timesAndPlus();
        powers();
        derives();
        clears();
        sames();
        loads();
        spills();
        tolds();
        reaches();
        bounds();
        classes();
        classesTold();
        parts();
        spaces();
        spans();
        alikes();
        roots();
        links();
        runs();
        runsOfEachKind();
        wouldsAndClosings();
        loosens();
        undos();
        sheets();
        cells();
        shifts();
        counts();
        System.out.println(passed + " passed, " + failed + " failed");
        if (failed != 0) {
            System.exit(1);
        }
    }

    /** Slot 0 gets a table of the rows given. */
    private static YesNoPowers with(int... rows) {
        YesNoPowers x = new YesNoPowers();
        give(x, 0, rows);
        return x;
    }

    private static void give(YesNoPowers x, int slot, int... rows) {
        x.make(slot, rows.length, 0);
        for (int i = 0; i < rows.length; i++) {
            x.setRow(slot, i, rows[i]);
        }
    }

    private static void rowsDue(YesNoPowers x, int slot, int... rows) {
        due("told(" + slot + ", 0)", x.told(slot, 0), rows.length);
        for (int i = 0; i < rows.length; i++) {
            due("line(" + slot + ", 0, " + i + ")", x.line(slot, 0, i), rows[i]);
        }
    }

    private static void newObject() {
        promise = 1;
        YesNoPowers x = new YesNoPowers();
        for (int slot = 0; slot < 6; slot++) {
            due("told(slot, 0)", x.told(slot, 0), 0);
        }
        for (int what = 0; what < 5; what++) {
            due("count(" + what + ")", x.count(what), 0);
        }
        due("closing(0)", x.closing(0), -2);
        due("reason(0)", x.reason(0), -2);
        due("undo()", x.undo(), -2);
        due("loosen()", x.loosen(), 0);
        due("item(0, 0)", x.item(0, 0), Long.MIN_VALUE);
    }

    private static void makes() {
        promise = 2;
        YesNoPowers x = new YesNoPowers();
        due("make", x.make(0, 3, 0), 3);
        rowsDue(x, 0, 0, 0, 0);
        due("make", x.make(0, 3, 1), 3);
        rowsDue(x, 0, 7, 7, 7);
        due("make", x.make(0, 3, 2), 3);
        rowsDue(x, 0, 1, 2, 4);
        due("make", x.make(0, 3, 3), 3);
        rowsDue(x, 0, 2, 4, 1);
        due("make", x.make(0, 3, 4), 3);
        rowsDue(x, 0, 2, 4, 3);
        due("make", x.make(5, 12, 1), 12);
        due("line", x.line(5, 0, 11), 4095);
        due("make", x.make(5, 12, 4), 12);
        due("line", x.line(5, 0, 11), 3);
        due("line", x.line(5, 0, 10), 2048);
        due("make of 1", x.make(1, 1, 3), 1);
        rowsDue(x, 1, 1);
        due("make of 1", x.make(1, 1, 0), 1);
        rowsDue(x, 1, 0);
        due("make of 2", x.make(1, 2, 4), 2);
        rowsDue(x, 1, 2, 3);
        due("count(2)", x.count(2), 10);
        due("a small one over a large one", x.make(5, 2, 0), 2);
        due("a large one again", x.make(5, 4, 0), 4);
        rowsDue(x, 5, 0, 0, 0, 0);
        int before = x.count(2);
        due("make of 1, what 4", x.make(1, 1, 4), -1);
        due("no slot", x.make(-1, 3, 0), -1);
        due("no slot", x.make(6, 3, 0), -1);
        due("no n", x.make(0, 0, 0), -1);
        due("no n", x.make(0, 13, 0), -1);
        due("no n", x.make(0, LOW, 0), -1);
        due("no what", x.make(0, 3, -1), -1);
        due("no what", x.make(0, 3, 5), -1);
        due("refusals leave the log", x.count(2), before);
        rowsDue(x, 0, 2, 4, 3);
        rowsDue(x, 1, 2, 3);
    }

    private static void puts() {
        promise = 3;
        YesNoPowers x = new YesNoPowers();
        x.make(0, 3, 0);
        due("put", x.put(0, 1, 2, 1), 0);
        due("put", x.put(0, 1, 2, 1), 1);
        rowsDue(x, 0, 0, 4, 0);
        due("the same anew is in the log", x.count(2), 3);
        due("put", x.put(0, 1, 2, 0), 1);
        due("put", x.put(0, 1, 2, 0), 0);
        rowsDue(x, 0, 0, 0, 0);
        due("count(2)", x.count(2), 5);
        due("v", x.put(0, 0, 0, 2), -1);
        due("v", x.put(0, 0, 0, -1), -1);
        due("i", x.put(0, 3, 0, 1), -1);
        due("i", x.put(0, -1, 0, 1), -1);
        due("j", x.put(0, 0, 3, 1), -1);
        due("j", x.put(0, 0, -1, 1), -1);
        due("no table", x.put(1, 0, 0, 1), -1);
        due("no slot", x.put(6, 0, 0, 1), -1);
        due("no slot", x.put(-1, 0, 0, 1), -1);
        due("extremes", x.put(TOP, LOW, TOP, LOW), -1);
        x.make(1, 4, 1);
        due("another slot was the last", x.put(0, 0, 1, 1), 0);
        rowsDue(x, 0, 2, 0, 0);
        x.undo();
        x.undo();
        rowsDue(x, 0, 0, 0, 0);
        due("count(2)", x.count(2), 5);
    }

    private static void atsAndLines() {
        promise = 4;
        YesNoPowers x = with(6, 1, 4);
        due("at", x.at(0, 0, 0), 0);
        due("at", x.at(0, 0, 1), 1);
        due("at", x.at(0, 0, 2), 1);
        due("at", x.at(0, 1, 0), 1);
        due("at", x.at(0, 2, 0), 0);
        due("i", x.at(0, 3, 0), -1);
        due("i", x.at(0, -1, 0), -1);
        due("j", x.at(0, 0, 3), -1);
        due("j", x.at(0, 0, -1), -1);
        due("no table", x.at(1, 0, 0), -1);
        due("no slot", x.at(6, 0, 0), -1);
        due("no slot", x.at(LOW, 0, 0), -1);
        promise = 5;
        due("line", x.line(0, 0, 0), 6);
        due("line", x.line(0, 0, 2), 4);
        due("line", x.line(0, 1, 0), 2);
        due("line", x.line(0, 1, 1), 1);
        due("line", x.line(0, 1, 2), 5);
        due("way", x.line(0, 2, 0), -1);
        due("way", x.line(0, -1, 0), -1);
        due("i", x.line(0, 0, 3), -1);
        due("i", x.line(0, 1, -1), -1);
        due("no table", x.line(1, 0, 0), -1);
        due("no slot", x.line(6, 0, 0), -1);
        due("asking is no act", x.count(2), 4);
    }

    private static void setRows() {
        promise = 6;
        YesNoPowers x = new YesNoPowers();
        x.make(0, 3, 2);
        due("setRow", x.setRow(0, 1, 7), 2);
        due("setRow", x.setRow(0, 1, 7), 7);
        due("setRow", x.setRow(0, 2, 0), 4);
        rowsDue(x, 0, 1, 7, 0);
        due("count(2)", x.count(2), 4);
        due("no column", x.setRow(0, 1, 8), -1);
        due("no column", x.setRow(0, 1, -1), -1);
        due("no column", x.setRow(0, 1, LOW), -1);
        due("i", x.setRow(0, 3, 1), -1);
        due("i", x.setRow(0, -1, 1), -1);
        due("no table", x.setRow(3, 0, 1), -1);
        due("no slot", x.setRow(7, 0, 1), -1);
        x.make(1, 4, 1);
        due("another slot was the last", x.setRow(0, 1, 2), 7);
        rowsDue(x, 0, 1, 2, 0);
        x.undo();
        x.undo();
        rowsDue(x, 0, 1, 7, 0);
        due("count(2)", x.count(2), 4);
    }

    private static void timesAndPlus() {
        promise = 7;
        YesNoPowers x = with(2, 4, 0);
        give(x, 1, 1, 6, 3);
        due("times", x.times(0, 1, 2), 3);
        rowsDue(x, 2, 6, 3, 0);
        due("times", x.times(1, 0, 2), 3);
        rowsDue(x, 2, 2, 4, 6);
        due("into its first", x.times(0, 1, 0), 3);
        rowsDue(x, 0, 6, 3, 0);
        x.undo();
        due("into its second", x.times(0, 1, 1), 3);
        rowsDue(x, 1, 6, 3, 0);
        x.undo();
        due("of itself into itself", x.times(1, 1, 1), 3);
        rowsDue(x, 1, 1, 7, 7);
        x.undo();
        x.make(4, 2, 1);
        int before = x.count(2);
        due("unlike", x.times(0, 4, 2), -3);
        due("no slot to is named ahead", x.times(0, 4, 6), -1);
        due("no slot to", x.times(0, 1, -1), -1);
        due("no table a", x.times(5, 0, 1), -1);
        due("no table b", x.times(0, 5, 1), -1);
        due("no slot a", x.times(6, 0, 1), -1);
        due("no slot b", x.times(0, -1, 1), -1);
        due("count(2)", x.count(2), before);
        promise = 8;
        due("plus", x.plus(0, 1, 3), 3);
        rowsDue(x, 3, 3, 6, 3);
        due("plus", x.plus(0, 1, 0), 3);
        rowsDue(x, 0, 3, 6, 3);
        due("unlike", x.plus(0, 4, 2), -3);
        due("no slot to is named ahead", x.plus(4, 0, 6), -1);
        due("no table a", x.plus(5, 0, 1), -1);
        due("no table b", x.plus(0, 5, 1), -1);
        due("no slot", x.plus(6, 6, 6), -1);
        due("count(2)", x.count(2), before + 2);
    }

    private static void powers() {
        promise = 9;
        YesNoPowers x = new YesNoPowers();
        x.make(0, 5, 3);
        due("power 0", x.power(0, 0, 1), 5);
        rowsDue(x, 1, 1, 2, 4, 8, 16);
        due("power 1", x.power(0, 1, 1), 5);
        rowsDue(x, 1, 2, 4, 8, 16, 1);
        due("power 3", x.power(0, 3, 1), 5);
        rowsDue(x, 1, 8, 16, 1, 2, 4);
        due("power 1000000", x.power(0, 1000000, 1), 5);
        rowsDue(x, 1, 1, 2, 4, 8, 16);
        due("power 999999", x.power(0, 999999, 1), 5);
        rowsDue(x, 1, 16, 1, 2, 4, 8);
        due("into itself", x.power(0, 2, 0), 5);
        rowsDue(x, 0, 4, 8, 16, 1, 2);
        x.make(2, 3, 0);
        due("power 0 of nothing but 0", x.power(2, 0, 2), 3);
        rowsDue(x, 2, 1, 2, 4);
        int before = x.count(2);
        due("k", x.power(0, -1, 1), -1);
        due("k", x.power(0, 1000001, 1), -1);
        due("no table", x.power(5, 1, 1), -1);
        due("no slot", x.power(6, 1, 1), -1);
        due("no slot to", x.power(0, 1, 6), -1);
        due("count(2)", x.count(2), before);
    }

    private static void derives() {
        promise = 10;
        YesNoPowers x = with(2, 4, 0);
        due("itself", x.derive(0, 0, 1), 3);
        rowsDue(x, 1, 2, 4, 0);
        due("transpose", x.derive(0, 1, 1), 3);
        rowsDue(x, 1, 0, 1, 2);
        due("complement", x.derive(0, 2, 1), 3);
        rowsDue(x, 1, 5, 3, 7);
        due("closure", x.derive(0, 3, 1), 3);
        rowsDue(x, 1, 6, 4, 0);
        due("greatest x", x.derive(0, 4, 1), 3);
        rowsDue(x, 1, 7, 5, 6);
        due("into itself", x.derive(0, 1, 0), 3);
        rowsDue(x, 0, 0, 1, 2);
        due("greatest x into itself", x.derive(0, 4, 0), 3);
        rowsDue(x, 0, 3, 5, 7);
        int before = x.count(2);
        due("what", x.derive(0, 5, 1), -1);
        due("what", x.derive(0, -1, 1), -1);
        due("no table", x.derive(5, 0, 1), -1);
        due("no slot", x.derive(-1, 0, 1), -1);
        due("no slot to", x.derive(0, 0, 6), -1);
        due("count(2)", x.count(2), before);
        x.make(0, 12, 3);
        x.derive(0, 3, 0);
        due("closure of a ring", x.told(0, 5), 144);
    }

    private static void clears() {
        promise = 11;
        YesNoPowers x = new YesNoPowers();
        x.make(2, 7, 1);
        due("clear", x.clear(2), 7);
        due("told", x.told(2, 0), 0);
        due("count(2)", x.count(2), 2);
        due("clear again", x.clear(2), 0);
        due("the log gets nothing", x.count(2), 2);
        due("no slot", x.clear(6), -1);
        x.make(4, 1, 0);
        due("clear of 1", x.clear(4), 1);
        due("told", x.told(4, 0), 0);
        due("undo", x.undo(), 4);
        due("undo", x.undo(), 4);
        due("no slot", x.clear(-1), -1);
        due("undo", x.undo(), 2);
        due("told", x.told(2, 5), 49);
    }

    private static void sames() {
        promise = 12;
        YesNoPowers x = with(2, 4, 1);
        x.make(1, 3, 3);
        due("same", x.same(0, 1), 1);
        due("same", x.same(0, 0), 1);
        x.put(1, 2, 2, 1);
        due("other", x.same(0, 1), 0);
        x.make(2, 2, 3);
        due("of another n", x.same(0, 2), 0);
        x.make(1, 3, 0);
        x.make(2, 2, 0);
        due("of another n, both without a 1", x.same(1, 2), 0);
        due("no table", x.same(0, 5), -1);
        due("no table", x.same(5, 0), -1);
        due("no tables", x.same(4, 5), -1);
        due("no slot", x.same(6, 0), -1);
        due("no slot", x.same(0, -1), -1);
    }

    private static void loads() {
        promise = 13;
        YesNoPowers x = new YesNoPowers();
        x.sheet(0, 0, 6);
        x.sheet(1, 1, 40);
        x.cell(0, 1, 5);
        x.cell(0, 2, 2);
        x.cell(0, 3, 7);
        due("load", x.load(4, 0, 1, 3), 3);
        rowsDue(x, 4, 5, 2, 7);
        due("count(2)", x.count(2), 1);
        due("to the end", x.load(4, 0, 3, 3), 3);
        rowsDue(x, 4, 7, 0, 0);
        due("beyond the end", x.load(4, 0, 4, 3), -12);
        due("below 0", x.load(4, 0, -1, 3), -12);
        due("far", x.load(4, 0, TOP, 3), -12);
        due("far", x.load(4, 0, LOW, 3), -12);
        due("a bit too many", x.load(4, 0, 1, 2), -1);
        due("beyond the end is named ahead", x.load(4, 0, 3, 4), -12);
        rowsDue(x, 4, 7, 0, 0);
        due("missing", x.load(4, 2, 0, 3), -11);
        due("missing, far", x.load(4, 2, -9, 3), -11);
        due("n is named ahead", x.load(4, 2, 0, 13), -1);
        due("n", x.load(4, 0, 0, 0), -1);
        due("no slot", x.load(6, 0, 0, 3), -1);
        due("no sheet", x.load(4, 4, 0, 3), -1);
        due("no sheet", x.load(4, -1, 0, 3), -1);
        due("count(2)", x.count(2), 2);
        x.sheet(0, 0, 8);
        x.cell(0, 0, -1);
        x.cell(0, 7, 200);
        due("a byte is a row of 8", x.load(4, 0, 0, 8), 8);
        rowsDue(x, 4, 255, 0, 0, 0, 0, 0, 0, 200);
        due("a byte has more than 7", x.load(4, 0, 0, 7), -1);
        x.cell(1, 28, 4095);
        x.cell(1, 39, 2048);
        due("ints", x.load(4, 1, 28, 12), 12);
        due("line", x.line(4, 0, 0), 4095);
        due("line", x.line(4, 0, 11), 2048);
        due("beyond the end", x.load(4, 1, 29, 12), -12);
        x.cell(1, 0, -1);
        due("a negative int", x.load(4, 1, 0, 12), -1);
        x.cell(1, 0, 4096);
        due("4096", x.load(4, 1, 0, 12), -1);
        x.cell(1, 0, 256);
        due("an int is no byte", x.load(4, 1, 0, 1), -1);
    }

    private static void spills() {
        promise = 14;
        YesNoPowers x = with(1, 6, 4);
        x.sheet(0, 1, 5);
        due("spill", x.spill(0, 0, 1), 3);
        due("item", x.item(0, 0), 0);
        due("item", x.item(0, 1), 1);
        due("item", x.item(0, 2), 6);
        due("item", x.item(0, 3), 4);
        due("item", x.item(0, 4), 0);
        due("as have room", x.spill(0, 0, 3), 2);
        due("item", x.item(0, 4), 6);
        due("none has room", x.spill(0, 0, 5), 0);
        due("above", x.spill(0, 0, 6), -12);
        due("above", x.spill(0, 0, TOP), -12);
        due("below", x.spill(0, 0, -1), -12);
        due("missing", x.spill(0, 1, 0), -11);
        due("no table", x.spill(1, 0, 0), -1);
        due("no table is named ahead", x.spill(1, 1, 0), -1);
        due("no slot", x.spill(6, 0, 0), -1);
        due("no sheet", x.spill(0, 4, 0), -1);
        due("a slot stays, the log too", x.count(2), 4);
        x.make(2, 12, 1);
        x.sheet(1, 0, 1);
        due("bytes", x.spill(2, 1, 0), 1);
        due("a byte", x.item(1, 0), -1);
        x.setRow(2, 0, 0x782);
        due("bytes", x.spill(2, 1, 0), 1);
        due("a byte", x.item(1, 0), -126);
        x.sheet(1, 0, 0);
        due("a sheet of none", x.spill(2, 1, 0), 0);
    }

    private static void tolds() {
        promise = 15;
        YesNoPowers x = new YesNoPowers();
        x.make(0, 12, 4);
        due("index", x.told(0, 1), 122);
        due("period", x.told(0, 2), 1);
        due("idempotent", x.told(0, 3), 122);
        due("exponent", x.told(0, 4), 122);
        due("ones", x.told(0, 5), 13);
        due("square", x.told(0, 6), 0);
        due("symmetric", x.told(0, 7), 0);
        // Rings of 3, 4 and 5: the greatest period there is for n of 12.
        give(x, 0, 2, 4, 1, 16, 32, 64, 8, 256, 512, 1024, 2048, 128);
        due("index", x.told(0, 1), 1);
        due("period", x.told(0, 2), 60);
        due("idempotent", x.told(0, 3), 60);
        due("exponent", x.told(0, 4), 0);
        // A way of 5 into a ring of 3.
        give(x, 0, 2, 4, 8, 16, 32, 64, 128, 32);
        due("index", x.told(0, 1), 5);
        due("period", x.told(0, 2), 3);
        due("idempotent", x.told(0, 3), 6);
        x.make(1, 1, 0);
        due("index of 0", x.told(1, 1), 1);
        due("period of 0", x.told(1, 2), 1);
        due("idempotent of 0", x.told(1, 3), 1);
        due("exponent of 0", x.told(1, 4), 0);
        due("square of 0", x.told(1, 6), 1);
        x.make(1, 1, 1);
        due("exponent of 1", x.told(1, 4), 1);
        x.make(1, 4, 1);
        due("exponent of 1 everywhere", x.told(1, 4), 1);
        due("ones", x.told(1, 5), 16);
        due("square", x.told(1, 6), 1);
        due("symmetric", x.told(1, 7), 1);
        x.make(1, 2, 3);
        due("square of a change", x.told(1, 6), 0);
        due("symmetric change", x.told(1, 7), 1);
        due("a change of 2 is not primitive", x.told(1, 4), 0);
        give(x, 1, 2, 4, 0);
        due("nilpotent index", x.told(1, 1), 3);
        due("nilpotent period", x.told(1, 2), 1);
        due("nilpotent idempotent", x.told(1, 3), 3);
        due("n", x.told(0, 0), 8);
        due("n of nothing", x.told(3, 0), 0);
        for (int what = 1; what < 8; what++) {
            due("what " + what + " of nothing", x.told(3, what), -1);
        }
        due("what", x.told(0, 8), -1);
        due("what", x.told(3, -1), -1);
        due("no slot", x.told(6, 0), -1);
        due("no slot", x.told(-1, 5), -1);
    }

    private static void reaches() {
        promise = 16;
        YesNoPowers x = new YesNoPowers();
        x.make(0, 5, 3);
        x.power(0, 4, 1);
        due("4", x.reaches(0, 1), 4);
        due("the least", x.reaches(0, 0), 1);
        x.make(1, 5, 2);
        due("unit only as power 5", x.reaches(0, 1), 5);
        due("never", x.reaches(1, 0), -2);
        x.make(2, 12, 4);
        x.power(2, 121, 3);
        due("121", x.reaches(2, 3), 121);
        x.make(3, 12, 1);
        due("122", x.reaches(2, 3), 122);
        give(x, 2, 2, 4, 1, 16, 32, 64, 8, 256, 512, 1024, 2048, 128);
        x.make(3, 12, 2);
        due("60", x.reaches(2, 3), 60);
        x.make(3, 12, 0);
        due("none", x.reaches(2, 3), -2);
        due("unlike", x.reaches(0, 2), -3);
        due("no table", x.reaches(0, 5), -1);
        due("no table", x.reaches(5, 0), -1);
        due("no slot", x.reaches(6, 0), -1);
        due("no slot", x.reaches(0, 6), -1);
    }

    private static void bounds() {
        promise = 17;
        YesNoPowers x = new YesNoPowers();
        x.make(0, 4, 4);
        due("0", x.bound(0, 0), 10);
        due("1", x.bound(0, 1), 10);
        due("2 without loops", x.bound(0, 2), -2);
        due("3 of one unlike its transpose", x.bound(0, 3), -2);
        x.put(0, 1, 1, 1);
        due("1 with a loop", x.bound(0, 1), 6);
        due("2 with a loop", x.bound(0, 2), 6);
        x.put(0, 3, 3, 1);
        due("2 with two loops", x.bound(0, 2), 5);
        x.make(3, 6, 4);
        due("1 of another slot", x.bound(3, 1), 26);
        due("1 of the first again", x.bound(0, 1), 6);
        x.make(1, 3, 1);
        x.put(1, 0, 0, 0);
        x.put(1, 1, 1, 0);
        x.put(1, 2, 2, 0);
        due("1 of all but loops", x.bound(1, 1), 5);
        due("3 of all but loops", x.bound(1, 3), 4);
        due("2 of all but loops", x.bound(1, 2), -2);
        x.make(1, 1, 1);
        due("0 of 1", x.bound(1, 0), 1);
        due("1 of 1", x.bound(1, 1), 0);
        due("2 of 1", x.bound(1, 2), 0);
        due("3 of 1", x.bound(1, 3), 1);
        x.make(2, 4, 3);
        for (int what = 0; what < 4; what++) {
            due("not primitive", x.bound(2, what), -2);
        }
        due("what ahead of primitive", x.bound(2, 4), -1);
        due("what", x.bound(0, -1), -1);
        due("no table", x.bound(5, 0), -1);
        due("no slot", x.bound(6, 0), -1);
    }

    private static void classes() {
        promise = 18;
        YesNoPowers x = new YesNoPowers();
        x.make(0, 12, 0);
        due("each its own", x.classes(0), 12);
        x.make(0, 12, 3);
        due("all one", x.classes(0), 1);
        give(x, 0, 1 << 3, 0, 1 << 1, 1 << 0, 1 << 2);
        due("0 and 3, 1, 2, 4", x.classes(0), 4);
        due("no table", x.classes(1), -1);
        due("no slot", x.classes(6), -1);
        due("no slot", x.classes(-1), -1);
        promise = 19;
        due("of 0", x.classOf(0, 0), 0);
        due("of 1", x.classOf(0, 1), 1);
        due("of 2", x.classOf(0, 2), 2);
        due("of 3", x.classOf(0, 3), 0);
        due("of 4", x.classOf(0, 4), 3);
        due("no member", x.classOf(0, 5), -1);
        due("no member", x.classOf(0, -1), -1);
        due("no table", x.classOf(1, 0), -1);
        due("no slot", x.classOf(9, 0), -1);
    }

    private static void classesTold() {
        promise = 20;
        // 0 and 3 are a ring of 2; 4 leads to 2, 2 to 1 and to the ring; 5 leads to itself and to 1.
        YesNoPowers x = with(8, 0, 3, 1, 4, 34);
        int[][] due = {
            {0, 2, 2, 2, 2, 9, 0, 0},
            {1, 1, 0, 0, 2, 2, 0, 0},
            {2, 1, 0, 0, 1, 4, 2, 3},
            {4, 1, 0, 0, 0, 16, 3, 7},
            {5, 1, 1, 1, 0, 32, 1, 2},
        };
        for (int k = 0; k < due.length; k++) {
            for (int what = 0; what < 8; what++) {
                due("ofClass(0, " + k + ", " + what + ")", x.ofClass(0, k, what), due[k][what]);
            }
        }
        due("no class", x.ofClass(0, 5, 0), -1);
        due("no class", x.ofClass(0, -1, 0), -1);
        due("what", x.ofClass(0, 0, 8), -1);
        due("what", x.ofClass(0, 0, -1), -1);
        due("no table", x.ofClass(1, 0, 0), -1);
        due("no slot", x.ofClass(6, 0, 0), -1);
        // Ways back of 4 and of 6: the period is 2, the girth 4.
        give(x, 0, 2, 4, 8, 1 | 16, 32, 1);
        due("period", x.ofClass(0, 0, 2), 2);
        due("girth", x.ofClass(0, 0, 3), 4);
        // A long line that runs against the numbers: levels 11 .. 0.
        give(x, 0, 0, 1, 2, 4, 8, 16, 32, 64, 128, 256, 512, 1024);
        for (int k = 0; k < 12; k++) {
            due("level", x.ofClass(0, k, 4), 11 - k);
            due("below", x.ofClass(0, k, 6), k);
        }
        // Two ways to 3, one of them longer: the greatest level counts.
        give(x, 0, 2 | 8, 4, 8, 0);
        due("level", x.ofClass(0, 3, 4), 3);
    }

    private static void parts() {
        promise = 21;
        YesNoPowers x = with(0, 4, 8, 2 | 16, 4, 0);
        // 1, 2, 3 are a ring of 3, and 4 stands where 1 does.
        due("part of 1", x.part(0, 1), 0);
        due("part of 2", x.part(0, 2), 1);
        due("part of 3", x.part(0, 3), 2);
        due("part of 4", x.part(0, 4), 0);
        due("part of 0", x.part(0, 0), -15);
        due("no member", x.part(0, 6), -1);
        due("no member", x.part(0, -1), -1);
        due("no table", x.part(1, 0), -1);
        due("no slot", x.part(6, 0), -1);
        promise = 22;
        due("parts", x.parts(0, 1, 0), 2 | 16);
        due("parts", x.parts(0, 1, 1), 4);
        due("parts", x.parts(0, 1, 2), 8);
        due("no part", x.parts(0, 1, 3), -1);
        x.make(2, 3, 3);
        due("parts with member 0", x.parts(2, 0, 0), 1);
        due("parts with member 0", x.parts(2, 0, 2), 4);
        due("no part", x.parts(0, 1, -1), -1);
        due("period 0", x.parts(0, 0, 0), -15);
        due("period 0 is named ahead of the part", x.parts(0, 0, -1), -15);
        due("no class", x.parts(0, 3, 0), -1);
        due("no class", x.parts(0, -1, 0), -1);
        due("no table", x.parts(1, 0, 0), -1);
        due("no slot", x.parts(-1, 0, 0), -1);
        promise = 23;
        due("rest", x.rest(0, 1, 0), 0);
        due("rest", x.rest(0, 1, 7), 1);
        due("rest below 0", x.rest(0, 1, -7), 2);
        due("rest of the least", x.rest(0, 1, LOW), 1);
        due("rest of the greatest", x.rest(0, 1, TOP), 1);
        due("period 0", x.rest(0, 0, 5), -15);
        due("no class", x.rest(0, 3, 5), -1);
        due("no class", x.rest(0, -1, 5), -1);
        due("no table", x.rest(1, 0, 5), -1);
        due("no slot", x.rest(6, 0, 5), -1);
    }

    private static void spaces() {
        promise = 24;
        YesNoPowers x = with(0b0011, 0b0110, 0b0011, 0b0111);
        due("unions", x.space(0, 0), 4);
        due("basis", x.space(0, 1), 2);
        due("unions of columns", x.space(0, 2), 4);
        due("basis of columns", x.space(0, 3), 2);
        due("regular", x.space(0, 4), 1);
        x.make(1, 12, 2);
        due("unions", x.space(1, 0), 4096);
        due("basis", x.space(1, 1), 12);
        due("regular", x.space(1, 4), 1);
        x.make(1, 12, 0);
        due("the empty one", x.space(1, 0), 1);
        due("basis", x.space(1, 1), 0);
        // Of n 3, all that lead to two others are not regular.
        give(x, 2, 6, 5, 3);
        due("unions", x.space(2, 0), 5);
        due("basis", x.space(2, 1), 3);
        due("regular", x.space(2, 4), 0);
        give(x, 2, 3, 2, 2);
        due("basis by rows", x.space(2, 1), 2);
        due("basis by columns", x.space(2, 3), 2);
        give(x, 2, 7, 3, 0);
        due("unions by columns", x.space(2, 2), 3);
        give(x, 2, 1, 2, 3);
        due("unions by rows", x.space(2, 0), 4);
        due("unions by columns", x.space(2, 2), 4);
        due("basis by rows", x.space(2, 1), 2);
        due("basis by columns", x.space(2, 3), 2);
        due("what", x.space(0, 5), -1);
        give(x, 2, 0b0111, 0b1010, 0b1100, 0);
        due("3 rows", x.space(2, 1), 3);
        due("but 4 columns", x.space(2, 3), 4);
        due("as many unions of rows", x.space(2, 0), 6);
        due("as of columns", x.space(2, 2), 6);
        x.derive(2, 1, 2);
        due("turned: 4 rows", x.space(2, 1), 4);
        due("turned: 3 columns", x.space(2, 3), 3);
        due("what", x.space(0, -1), -1);
        due("no table", x.space(5, 0), -1);
        due("no slot", x.space(6, 0), -1);
        promise = 25;
        due("basis", x.basis(0, 0), 3);
        due("basis", x.basis(0, 1), 6);
        due("no more", x.basis(0, 2), -2);
        due("below 0", x.basis(0, -1), -2);
        due("far", x.basis(0, TOP), -2);
        due("of no rows", x.basis(1, 0), -2);
        due("no table", x.basis(5, 0), -1);
        due("no table, below 0", x.basis(5, -1), -1);
        due("no slot", x.basis(6, 0), -1);
        x.make(1, 12, 2);
        due("the last", x.basis(1, 11), 2048);
        due("beyond", x.basis(1, 12), -2);
        give(x, 1, 8, 1, 9, 4);
        due("from the least up", x.basis(1, 0), 1);
        due("from the least up", x.basis(1, 1), 4);
        due("from the least up", x.basis(1, 2), 8);
    }

    private static void spans() {
        promise = 26;
        YesNoPowers x = with(3, 6, 0, 8);
        int in = 0;
        for (int set = 0; set < 16; set++) {
            in |= x.spans(0, set) << set;
        }
        due("all sets", in, 1 | 1 << 3 | 1 << 6 | 1 << 7 | 1 << 8 | 1 << 11 | 1 << 14 | 1 << 15);
        due("no column", x.spans(0, 16), -1);
        due("no column", x.spans(0, -1), -1);
        due("no table", x.spans(1, 0), -1);
        due("no slot", x.spans(6, 0), -1);
    }

    private static void alikes() {
        promise = 27;
        YesNoPowers x = with(3, 6, 0);
        give(x, 1, 6, 7, 3);
        due("rows", x.alike(0, 1, 0), 1);
        due("columns", x.alike(0, 1, 1), 0);
        give(x, 2, 2, 3, 1);
        give(x, 3, 1, 0, 2);
        due("rows", x.alike(2, 3, 0), 1);
        x.derive(2, 1, 2);
        x.derive(3, 1, 3);
        due("columns", x.alike(2, 3, 1), 1);
        due("rows of the turned", x.alike(2, 3, 0), 0);
        x.make(4, 3, 0);
        due("one lies in the other", x.alike(0, 4, 0), 0);
        due("one lies in the other", x.alike(4, 0, 0), 0);
        give(x, 4, 1, 0, 0);
        give(x, 5, 0, 0, 0);
        due("but for row 0", x.alike(4, 5, 0), 0);
        due("but for row 0", x.alike(5, 4, 0), 0);
        due("but for column 0", x.alike(5, 4, 1), 0);
        x.clear(5);
        x.make(4, 4, 0);
        due("unlike", x.alike(0, 4, 0), -3);
        due("what is named ahead", x.alike(0, 4, 2), -1);
        due("what", x.alike(0, 1, -1), -1);
        due("no table", x.alike(0, 5, 0), -1);
        due("no table", x.alike(5, 0, 0), -1);
        due("no slot", x.alike(6, 0, 0), -1);
        due("no slot", x.alike(0, -1, 0), -1);
    }

    private static void roots() {
        promise = 28;
        YesNoPowers x = new YesNoPowers();
        x.make(0, 1, 1);
        due("of 1", x.roots(0, 2), 1);
        x.make(0, 2, 2);
        due("of unit", x.roots(0, 2), 2);
        due("of unit", x.roots(0, 3), 1);
        due("of unit", x.roots(0, 8), 2);
        x.make(0, 4, 2);
        // Of the 24 changes of 4: 10 whose square is unit, 9 whose third, 16 whose fourth.
        due("of unit", x.roots(0, 2), 10);
        due("of unit", x.roots(0, 3), 9);
        due("of unit", x.roots(0, 4), 16);
        x.make(0, 5, 2);
        due("large", x.roots(0, 2), -5);
        due("d is named ahead", x.roots(0, 9), -1);
        due("d", x.roots(0, 1), -1);
        due("no table", x.roots(1, 2), -1);
        due("no slot", x.roots(6, 2), -1);
        promise = 29;
        x.make(1, 2, 2);
        int before = x.count(2);
        due("least", x.root(1, 2, 3), 6);
        rowsDue(x, 3, 2, 1);
        due("count(2)", x.count(2), before + 1);
        due("into itself", x.root(1, 3, 1), 9);
        rowsDue(x, 1, 1, 2);
        x.make(2, 4, 0);
        due("of nothing but 0", x.root(2, 5, 3), 0);
        rowsDue(x, 3, 0, 0, 0, 0);
        x.make(2, 4, 1);
        due("of 1 everywhere", x.root(2, 8, 3), leastWholeRoot(8));
        before = x.count(2);
        x.make(2, 2, 3);
        due("none", x.root(2, 2, 4), -2);
        due("the slot stays", x.told(4, 0), 0);
        due("count(2)", x.count(2), before + 1);
        due("large", x.root(0, 2, 1), -5);
        due("no slot to is named ahead", x.root(0, 2, 6), -1);
        due("d is named ahead", x.root(0, 1, 1), -1);
        due("d", x.root(1, 9, 1), -1);
        due("no slot to", x.root(1, 2, -1), -1);
        due("no table", x.root(5, 2, 1), -1);
        due("no slot", x.root(6, 2, 1), -1);
    }

    /** The least number of 4 rows whose power d has 1 everywhere, found by way of put() and power(). */
    private static int leastWholeRoot(int d) {
        for (int number = 0; number < 65536; number++) {
            YesNoPowers x = with(number & 15, number >> 4 & 15, number >> 8 & 15, number >> 12);
            x.power(0, d, 0);
            if (x.told(0, 5) == 16) {
                return number;
            }
        }
        return -2;
    }

    private static void links() {
        promise = 30;
        YesNoPowers x = new YesNoPowers();
        x.make(1, 3, 1);
        due("0, whatever m", x.link(0, TOP), 1);
        due("1, whatever m", x.link(1, LOW), 2);
        due("2", x.link(2, 1), 3);
        due("3 of a slot that holds nothing", x.link(3, 5), 4);
        due("4", x.link(4, 99), 5);
        due("4", x.link(4, 0), 6);
        due("m of 4", x.link(4, 100), -1);
        due("m of 4", x.link(4, -1), -1);
        due("m of 2", x.link(2, 0), -1);
        due("m of 2", x.link(2, 6), -1);
        due("m of 3", x.link(3, 6), -1);
        due("m of 3", x.link(3, -1), -1);
        due("m of 6", x.link(6, 0), -1);
        due("m of 6", x.link(6, -1), -1);
        due("kind", x.link(7, 0), -1);
        due("kind", x.link(-1, 0), -1);
        due("count(1)", x.count(1), 6);
        due("5, whatever m", x.link(5, -5), 7);
        due("6", x.link(6, 1), 8);
        due("full", x.link(0, 0), -4);
        due("kind is named ahead", x.link(7, 0), -1);
        due("m is named ahead", x.link(4, 100), -1);
        due("count(1)", x.count(1), 8);
        due("no act on a slot", x.count(2), 1);
    }

    private static void runs() {
        promise = 31;
        YesNoPowers x = with(2, 4, 1);
        x.make(1, 3, 2);
        x.link(2, 1);
        x.link(3, 1);
        x.link(6, 1);
        x.make(1, 2, 1);
        int before = x.count(2);
        due("stops at 3's slot of another n", x.run(0), -21);
        due("reason", x.reason(0), 1);
        due("reason", x.reason(1), 3);
        due("reason", x.reason(2), 2);
        due("closing", x.closing(0), 1);
        due("closing", x.closing(1), 0);
        due("closing", x.closing(2), -2);
        rowsDue(x, 0, 2, 4, 1);
        due("count(2)", x.count(2), before);
        x.make(1, 3, 0);
        due("what 2, 6 held as they came", x.run(0), 3);
        rowsDue(x, 0, 0, 0, 0);
        due("reason", x.reason(0), -2);
        due("closing", x.closing(0), 2);
        due("closing", x.closing(2), 0);
        due("count(2)", x.count(2), before + 2);
        due("no run", x.run(5), -1);
        due("no run", x.run(6), -1);
        due("no run", x.run(-1), -1);
        due("closings stay", x.closing(0), 2);
        x.make(4, 4, 1);
        due("stops at 2", x.run(4), -20);
        due("reason", x.reason(0), 0);
        due("reason", x.reason(1), 2);
        due("reason", x.reason(2), 3);
        due("no run", x.run(5), -1);
        due("reasons stay", x.reason(2), 3);
        due("closings stay", x.closing(0), 0);
        x.loosen();
        due("closings stay", x.closing(0), 0);
        due("reasons stay", x.reason(2), 3);
        x.link(6, 4);
        due("stops at 6", x.run(0), -20);
        due("reason", x.reason(1), 6);
        due("reason", x.reason(2), 4);
        x.loosen();
        before = x.count(2);
        due("without links", x.run(4), 4);
        due("the same anew", x.count(2), before + 1);
        due("closing", x.closing(0), -2);
        due("reason", x.reason(0), -2);
        x.link(0, 0);
        x.link(3, 5);
        due("stops at nothing", x.run(4), -21);
        due("reason", x.reason(2), 105);
    }

    private static void runsOfEachKind() {
        promise = 31;
        int[][] links = {{0, 0}, {1, 0}, {2, 1}, {3, 1}, {4, 2}, {4, 0}, {5, 0}, {6, 1}, {4, 99}};
        int[] rows = {6, 4, 2};
        int[][] due = {
            {0, 5, 3}, {1, 3, 5}, {5, 4, 1}, {7, 5, 6}, {6, 2, 4}, {1, 2, 4}, {6, 6, 6}, {2, 0, 0}, {6, 4, 2},
        };
        for (int i = 0; i < links.length; i++) {
            YesNoPowers x = with(rows);
            give(x, 1, 3, 1, 4);
            x.link(links[i][0], links[i][1]);
            due("run by link " + i, x.run(0), 3);
            rowsDue(x, 0, due[i]);
        }
        YesNoPowers x = with(2, 4, 0);
        x.link(0, 0);
        x.link(3, 0);
        due("slots are as ahead of the run", x.run(0), 3);
        rowsDue(x, 0, 2, 5, 2);
    }

    private static void wouldsAndClosings() {
        promise = 32;
        YesNoPowers x = with(2, 4, 0);
        x.link(5, 0);
        x.link(3, 4);
        x.make(4, 3, 2);
        int before = x.count(2);
        due("would", x.would(0), 6);
        rowsDue(x, 0, 2, 4, 0);
        due("count(2)", x.count(2), before);
        due("closing", x.closing(0), 1);
        due("closing", x.closing(1), 0);
        x.clear(4);
        due("stops", x.would(0), -21);
        due("no run", x.would(5), -1);
        due("no run", x.would(6), -1);
        rowsDue(x, 0, 2, 4, 0);
        promise = 33;
        due("closing", x.closing(0), 1);
        due("closing", x.closing(1), 0);
        due("none such", x.closing(2), -2);
        due("none such", x.closing(-1), -2);
        due("none such", x.closing(TOP), -2);
        promise = 34;
        due("reason", x.reason(0), 1);
        due("reason", x.reason(1), 3);
        due("reason", x.reason(2), 104);
        due("none such", x.reason(3), -2);
        due("none such", x.reason(-1), -2);
        due("none such", x.reason(LOW), -2);
        x.loosen();
        due("would without links", x.would(0), 2);
        x.link(3, 3);
        due("stops at the first", x.would(0), -20);
        due("reason", x.reason(2), 103);
        x.loosen();
        due("would without links", x.would(0), 2);
        due("none such", x.closing(0), -2);
        due("none such", x.reason(0), -2);
        for (int i = 0; i < 8; i++) {
            x.link(0, 0);
        }
        due("would", x.would(0), 2);
        for (int i = 0; i < 8; i++) {
            due("closing", x.closing(i), 7 - i);
        }
        due("none such", x.closing(8), -2);
    }

    private static void loosens() {
        promise = 35;
        YesNoPowers x = with(2, 4, 0);
        x.link(0, 0);
        x.link(1, 0);
        int before = x.count(2);
        due("loosen", x.loosen(), 2);
        due("loosen", x.loosen(), 0);
        due("count(1)", x.count(1), 0);
        due("count(2)", x.count(2), before);
        due("link", x.link(5, 0), 1);
        due("would", x.would(0), 3);
    }

    private static void undos() {
        promise = 36;
        YesNoPowers x = new YesNoPowers();
        x.make(0, 3, 2);
        x.make(0, 2, 1);
        x.make(3, 4, 1);
        x.clear(0);
        due("undo", x.undo(), 0);
        rowsDue(x, 0, 3, 3);
        due("undo", x.undo(), 3);
        due("told", x.told(3, 0), 0);
        due("undo", x.undo(), 0);
        rowsDue(x, 0, 1, 2, 4);
        due("undo", x.undo(), 0);
        due("told", x.told(0, 0), 0);
        due("undo", x.undo(), -2);
        due("undo", x.undo(), -2);
        for (int n = 1; n <= 12; n++) {
            x.make(1, n, 1);
        }
        for (int n = 1; n <= 12; n++) {
            x.make(2, n, 1);
        }
        due("20 at most", x.count(2), 20);
        for (int n = 11; n >= 0; n--) {
            due("undo", x.undo(), 2);
            due("told", x.told(2, 0), n);
        }
        for (int n = 11; n >= 4; n--) {
            due("undo", x.undo(), 1);
            due("told", x.told(1, 0), n);
        }
        due("older ones are gone", x.undo(), -2);
        due("told", x.told(1, 0), 4);
        x.make(0, 2, 0);
        due("anew", x.count(2), 1);
        x.link(2, 0);
        x.undo();
        due("links stay", x.count(1), 1);
    }

    private static void sheets() {
        promise = 37;
        YesNoPowers x = new YesNoPowers();
        due("sheet", x.sheet(0, 0, 40), 1);
        due("sheet", x.sheet(3, 1, 0), 1);
        due("count(3)", x.count(3), 2);
        due("item", x.item(0, 39), 0);
        due("item", x.item(0, 40), Long.MIN_VALUE);
        due("item", x.item(3, 0), Long.MIN_VALUE);
        x.cell(0, 0, 9);
        due("anew", x.sheet(0, 1, 3), 1);
        due("all 0", x.item(0, 0), 0);
        due("shorter", x.item(0, 3), Long.MIN_VALUE);
        due("missing, whatever n", x.sheet(0, -1, -7), 1);
        due("missing, whatever n", x.sheet(0, -1, TOP), 1);
        due("count(3)", x.count(3), 1);
        due("item", x.item(0, 0), Long.MIN_VALUE);
        due("no sheet", x.sheet(4, 0, 1), -1);
        due("no sheet", x.sheet(-1, 0, -1), -1);
        due("sort", x.sheet(0, 2, 1), -1);
        due("sort", x.sheet(0, -2, -1), -1);
        due("n", x.sheet(0, 0, 41), -1);
        due("size", x.sheet(0, 0, -1), -14);
        due("size", x.sheet(0, 1, LOW), -14);
        due("a refusal changes nothing", x.count(3), 1);
        due("no act on a slot", x.count(2), 0);
    }

    private static void cells() {
        promise = 38;
        YesNoPowers x = new YesNoPowers();
        x.sheet(0, 0, 4);
        x.sheet(1, 1, 4);
        due("cell", x.cell(0, 0, 127), 1);
        due("cell", x.cell(0, 1, 128), 1);
        due("cell", x.cell(0, 2, -129), 1);
        due("cell", x.cell(0, 3, 0x12345605), 1);
        due("cell", x.cell(1, 3, LOW), 1);
        due("no number", x.cell(0, 4, 1), -12);
        due("no number", x.cell(0, -1, 1), -12);
        due("missing", x.cell(2, 0, 1), -11);
        due("missing", x.cell(2, -1, 1), -11);
        due("no sheet", x.cell(4, 0, 1), -1);
        due("no sheet", x.cell(-1, 0, 1), -1);
        promise = 39;
        due("item", x.item(0, 0), 127);
        due("item", x.item(0, 1), -128);
        due("item", x.item(0, 2), 127);
        due("item", x.item(0, 3), 5);
        due("item", x.item(1, 3), LOW);
        due("item", x.item(1, 2), 0);
        due("no number", x.item(0, 4), Long.MIN_VALUE);
        due("no number", x.item(0, -1), Long.MIN_VALUE);
        due("missing", x.item(2, 0), Long.MIN_VALUE);
        due("no sheet", x.item(4, 0), Long.MIN_VALUE);
        due("no sheet", x.item(-1, 0), Long.MIN_VALUE);
    }

    private static void shifts() {
        promise = 40;
        YesNoPowers x = new YesNoPowers();
        x.sheet(0, 1, 6);
        x.sheet(1, 1, 3);
        x.sheet(2, 0, 6);
        for (int i = 0; i < 6; i++) {
            x.cell(0, i, i + 1);
        }
        due("shift", x.shift(0, 2, 1, 1, 2), 2);
        due("item", x.item(1, 0), 0);
        due("item", x.item(1, 1), 3);
        due("item", x.item(1, 2), 4);
        due("up within itself", x.shift(0, 0, 0, 1, 5), 5);
        int[] up = {1, 1, 2, 3, 4, 5};
        for (int i = 0; i < 6; i++) {
            due("item", x.item(0, i), up[i]);
        }
        due("down within itself", x.shift(0, 2, 0, 0, 4), 4);
        int[] down = {2, 3, 4, 5, 4, 5};
        for (int i = 0; i < 6; i++) {
            due("item", x.item(0, i), down[i]);
        }
        due("none at the ends", x.shift(0, 6, 1, 3, 0), 0);
        due("beyond the first end", x.shift(0, 7, 1, 0, 0), -12);
        due("beyond the second end", x.shift(0, 0, 1, 4, 0), -12);
        due("too many", x.shift(0, 5, 1, 0, 2), -12);
        due("too many", x.shift(0, 0, 1, 2, 2), -12);
        due("n", x.shift(0, 0, 1, 0, -1), -12);
        due("i", x.shift(0, -1, 1, 0, 1), -12);
        due("j", x.shift(0, 0, 1, -1, 1), -12);
        due("far", x.shift(0, TOP, 1, 0, TOP), -12);
        due("far", x.shift(0, 1, 1, TOP, 1), -12);
        due("far", x.shift(0, 0, 1, 0, LOW), -12);
        due("sorts", x.shift(0, 0, 2, 0, 1), -13);
        due("sorts are named ahead", x.shift(2, -1, 0, 0, 1), -13);
        due("missing", x.shift(0, 0, 3, 0, 1), -11);
        due("missing", x.shift(3, 0, 0, 0, 1), -11);
        due("missing", x.shift(3, 0, 3, 0, 0), -11);
        due("no sheet", x.shift(4, 0, 3, 0, 1), -1);
        due("no sheet", x.shift(3, 0, -1, 0, 1), -1);
        due("item", x.item(0, 0), 2);
        x.cell(2, 0, 200);
        due("bytes", x.shift(2, 0, 2, 5, 1), 1);
        due("a byte", x.item(2, 5), -56);
    }

    private static void counts() {
        promise = 41;
        YesNoPowers x = new YesNoPowers();
        x.make(0, 3, 3);
        x.make(5, 3, 1);
        x.link(0, 0);
        x.link(4, 2);
        x.link(3, 1);
        x.sheet(2, 0, 0);
        due("tables", x.count(0), 2);
        due("links", x.count(1), 3);
        due("log", x.count(2), 2);
        due("sheets", x.count(3), 1);
        due("borrowed", x.count(4), 0);
        due("stops", x.run(0), -22);
        due("all given back", x.count(4), 0);
        due("what", x.count(5), -1);
        due("what", x.count(-1), -1);
        x.clear(5);
        due("tables", x.count(0), 1);
        x.make(5, 1, 0);
        due("tables, one of 1", x.count(0), 2);
        x.undo();
        due("log", x.count(2), 3);
    }
}
