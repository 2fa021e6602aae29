/** The edges of the terms on tables, and of promises 1 to 14: a test for each sentence that names one. */
public final class TablesEdgesTest {
    public static void main(String[] args) {
        sizes();
        operations();
        newObject();
        calls();
        make();
        put();
        at();
        line();
        setRow();
        times();
        plus();
        power();
        derive();
        clear();
        same();
        load();
        spill();
        Runs.end();
    }

    private static void sizes() {
        Runs.test("term 1", "A TABLE of n (1 .. 12)", """
            ! make 0 0 0 = BAD
            make 0 1 0 = 1
            make 0 12 0 = 12
            ! make 0 13 0 = BAD
            ! make 0 -1 0 = BAD
            ! make 0 LOW 0 = BAD
            ! make 0 TOP 0 = BAD
            told 0 0 = 12
            """);
        Runs.test("term 1", "has an entry, 1 or 0", """
            make 0 2 0 = 2
            put 0 1 0 1 = 0
            at 0 1 0 = 1
            put 0 1 0 0 = 1
            at 0 1 0 = 0
            ! put 0 1 0 2 = BAD
            ! put 0 1 0 -1 = BAD
            """);
        Runs.test("term 1", "at each row i, column j (0 .. n - 1)", """
            make 0 12 2 = 12
            at 0 0 0 = 1
            at 0 11 11 = 1
            ! at 0 12 0 = BAD
            ! at 0 0 12 = BAD
            ! at 0 -1 0 = BAD
            ! at 0 0 -1 = BAD
            make 1 1 1 = 1
            at 1 0 0 = 1
            ! at 1 1 0 = BAD
            ! at 1 0 1 = BAD
            """);
        Runs.test("term 1", "the columns of a larger TABLE that was there are no columns", """
            make 0 12 1 = 12
            make 0 2 1 = 2
            table 0 = 3 3
            ! at 0 2 0 = BAD
            ! at 0 0 2 = BAD
            line 0 1 0 = 3
            told 0 5 = 4
            ! setRow 0 0 4 = BAD
            """);
        Runs.test("term 1", "nothing that is told of a TABLE tells of a larger one that was there", """
            make 0 12 1 = 12
            make 1 12 1 = 12
            make 0 3 2 = 3
            make 1 3 2 = 3
            same 0 1 = 1
            told 0 1 = 1
            told 0 5 = 3
            told 0 6 = 1
            told 0 7 = 1
            classes 0 = 3
            space 0 0 = 8
            space 0 2 = 8
            spans 0 5 = 1
            alike 0 1 1 = 1
            reaches 0 1 = 1
            roots 0 2 = 4
            root 0 2 0 = 84
            table 0 = 4 2 1
            plus 0 1 0 = 3
            table 0 = 5 2 5
            sheet 0 1 12 = 1
            spill 0 0 0 = 3
            row 0 0 = 5 2 5 0 0 0 0 0 0 0 0 0
            """);
        Runs.test("term 1", "Rows and columns are told as bits (bit j of row i, bit i of column j)", """
            make 0 12 0 = 12
            put 0 0 11 1 = 0
            put 0 11 1 1 = 0
            line 0 0 0 = 2048
            line 0 0 11 = 2
            line 0 1 11 = 1
            line 0 1 1 = 2048
            line 0 1 0 = 0
            """);
        Runs.test("term 1", "SLOTS 0 .. 5 each hold a TABLE, or nothing (at first)", """
            told 0 0 = 0
            told 5 0 = 0
            make 0 2 1 = 2
            make 1 3 1 = 3
            make 2 4 1 = 4
            make 3 5 1 = 5
            make 4 6 1 = 6
            make 5 7 1 = 7
            told 0 0 = 2
            told 1 0 = 3
            told 2 0 = 4
            told 3 0 = 5
            told 4 0 = 6
            told 5 0 = 7
            ! told 6 0 = BAD
            ! told -1 0 = BAD
            """);
    }

    private static void operations() {
        Runs.test("term 1", "PRODUCT: 1 at i, j, if for some k the first has 1 at i, k, the second 1 at k, j", """
            give 0 1 4 0
            give 1 2 0 4
            times 0 1 2 = 3
            table 2 = 2 4 0
            give 0 7 0 0
            give 1 0 0 0
            times 0 1 2 = 3
            table 2 = 0 0 0
            give 1 0 0 5
            times 0 1 2 = 3
            table 2 = 5 0 0
            """);
        Runs.test("term 1", "PRODUCT: for n of 12, by way of k 0 and of k 11", """
            make 0 12 0 = 12
            put 0 5 0 1 = 0
            put 0 6 11 1 = 0
            make 1 12 0 = 12
            put 1 0 11 1 = 0
            put 1 11 0 1 = 0
            times 0 1 2 = 12
            table 2 = 0 0 0 0 0 2048 1 0 0 0 0 0
            """);
        Runs.test("term 1", "SUM: 1, where either has 1", """
            give 0 3 0
            give 1 1 2
            plus 0 1 2 = 2
            table 2 = 3 2
            """);
        Runs.test("term 1", "MEET: where both have", """
            give 0 3 1
            give 1 1 2
            link 6 1 = 1
            run 0 = 2
            table 0 = 1 0
            make 1 12 3 = 12
            make 0 12 1 = 12
            loosen = 1
            link 6 1 = 1
            run 0 = 12
            table 0 = 2 4 8 16 32 64 128 256 512 1024 2048 1
            make 1 1 1 = 1
            make 0 1 1 = 1
            loosen = 1
            link 6 1 = 1
            run 0 = 1
            table 0 = 1
            """);
        Runs.test("term 1", "COMPLEMENT: where it has 0", """
            make 0 12 0 = 12
            derive 0 2 0 = 12
            told 0 5 = 144
            line 0 0 11 = 4095
            derive 0 2 0 = 12
            told 0 5 = 0
            make 0 1 1 = 1
            derive 0 2 0 = 1
            table 0 = 0
            """);
        Runs.test("term 1", "TRANSPOSE: at i, j what it has at j, i", """
            make 0 12 0 = 12
            put 0 0 11 1 = 0
            derive 0 1 0 = 12
            at 0 11 0 = 1
            at 0 0 11 = 0
            told 0 5 = 1
            """);
        Runs.test("term 1", "UNIT: 1 at i, i alone", """
            make 0 12 2 = 12
            table 0 = 1 2 4 8 16 32 64 128 256 512 1024 2048
            make 0 1 2 = 1
            table 0 = 1
            """);
        Runs.test("term 1", "POWER 0 is UNIT", """
            make 0 3 0 = 3
            power 0 0 1 = 3
            table 1 = 1 2 4
            make 0 3 1 = 3
            power 0 0 1 = 3
            table 1 = 1 2 4
            make 0 1 0 = 1
            power 0 0 1 = 1
            table 1 = 1
            """);
        Runs.test("term 1", "POWER k + 1 POWER k times it", """
            give 0 2 4 8 0
            power 0 1 1 = 4
            table 1 = 2 4 8 0
            power 0 2 1 = 4
            table 1 = 4 8 0 0
            power 0 3 1 = 4
            table 1 = 8 0 0 0
            power 0 4 1 = 4
            table 1 = 0 0 0 0
            """);
        Runs.test("term 1", "CLOSURE: the SUM of POWERS 1, 2, .. n: not 0", """
            give 0 2 4 0
            derive 0 3 1 = 3
            table 1 = 6 4 0
            make 0 1 0 = 1
            derive 0 3 1 = 1
            table 1 = 0
            """);
        Runs.test("term 1", "CLOSURE: the SUM of POWERS 1, 2, .. n: n too", """
            make 0 12 3 = 12
            put 0 11 0 0 = 1
            derive 0 3 1 = 12
            line 1 0 0 = 4094
            line 1 0 11 = 0
            told 1 5 = 66
            put 0 11 0 1 = 0
            derive 0 3 1 = 12
            told 1 5 = 144
            make 0 1 1 = 1
            derive 0 3 1 = 1
            table 1 = 1
            """);
    }

    private static void newObject() {
        Runs.test("promise 1", "SLOTS hold nothing", """
            count 0 = 0
            table 0 = nothing
            table 1 = nothing
            table 2 = nothing
            table 3 = nothing
            table 4 = nothing
            table 5 = nothing
            """);
        Runs.test("promise 1", "THE CHAIN has no LINKS", """
            count 1 = 0
            count 4 = 0
            loosen = 0
            link 0 0 = 1
            """);
        Runs.test("promise 1", "there was no RUN", """
            closing 0 = NONE
            reason 0 = NONE
            reason 1 = NONE
            reason 2 = NONE
            """);
        Runs.test("promise 1", "THE LOG is empty", """
            count 2 = 0
            ! undo = NONE
            count 2 = 0
            """);
        Runs.test("promise 1", "(SHEETS are) missing (at first)", """
            count 3 = 0
            row 0 0 = missing
            row 1 0 = missing
            row 2 0 = missing
            row 3 0 = missing
            """);
    }

    /** 1 + 507 + 4 calls, so that the last one is the 512th. */
    private static void calls() {
        Runs.test("what it is", "An object is used for at most 512 calls: the 512th is answered as the first", """
            make 0 2 2 = 2
            507 * put 0 0 0 1 = 1
            put 0 0 1 1 = 0
            count 2 = 20
            undo = 0
            told 0 5 = 2
            """);
    }

    private static void make() {
        Runs.test("promise 2", "the TABLE of n with 0 everywhere (what 0)", """
            make 0 12 1 = 12
            make 0 12 0 = 12
            told 0 5 = 0
            make 0 1 0 = 1
            table 0 = 0
            """);
        Runs.test("promise 2", "1 everywhere (1)", """
            make 0 12 1 = 12
            told 0 5 = 144
            line 0 0 0 = 4095
            line 0 0 11 = 4095
            make 0 1 1 = 1
            table 0 = 1
            """);
        Runs.test("promise 2", "UNIT (2)", """
            make 0 12 2 = 12
            table 0 = 1 2 4 8 16 32 64 128 256 512 1024 2048
            make 0 1 2 = 1
            table 0 = 1
            """);
        Runs.test("promise 2", "with 1 at i, i + 1 and at n - 1, 0 (3)", """
            make 0 12 3 = 12
            table 0 = 2 4 8 16 32 64 128 256 512 1024 2048 1
            make 0 2 3 = 2
            table 0 = 2 1
            make 0 1 3 = 1
            table 0 = 1
            """);
        Runs.test("promise 2", "with these and 1 at n - 1, 1 too (4; n above 1)", """
            make 0 12 4 = 12
            table 0 = 2 4 8 16 32 64 128 256 512 1024 2048 3
            make 0 3 4 = 3
            table 0 = 2 4 3
            make 0 2 4 = 2
            table 0 = 2 3
            ! make 0 1 4 = BAD
            table 0 = 2 3
            """);
        Runs.test("promise 2", "BAD: no such slot", """
            make 0 2 1 = 2
            make 5 2 1 = 2
            ! make 6 2 1 = BAD
            ! make -1 2 1 = BAD
            ! make LOW 2 1 = BAD
            ! make TOP 2 1 = BAD
            """);
        Runs.test("promise 2", "BAD: no such n", """
            make 0 3 1 = 3
            ! make 0 0 1 = BAD
            ! make 0 13 1 = BAD
            ! make 1 0 4 = BAD
            ! make 0 -12 2 = BAD
            table 0 = 7 7 7
            table 1 = nothing
            """);
        Runs.test("promise 2", "BAD: no such what", """
            make 0 3 0 = 3
            ! make 0 3 -1 = BAD
            make 0 3 4 = 3
            ! make 0 3 5 = BAD
            ! make 0 3 TOP = BAD
            ! make 0 3 LOW = BAD
            table 0 = 2 4 3
            """);
        Runs.test("promise 2", "what the SLOT held is gone, and in THE LOG", """
            make 0 3 1 = 3
            make 0 2 0 = 2
            table 0 = 0 0
            make 0 3 0 = 3
            table 0 = 0 0 0
            count 2 = 3
            undo = 0
            table 0 = 0 0
            undo = 0
            table 0 = 7 7 7
            undo = 0
            table 0 = nothing
            """);
    }

    private static void put() {
        Runs.test("promise 3", "Entry i, j of a SLOT becomes v: that entry alone, in each corner", """
            make 0 3 0 = 3
            put 0 0 0 1 = 0
            table 0 = 1 0 0
            put 0 0 2 1 = 0
            table 0 = 5 0 0
            put 0 2 0 1 = 0
            table 0 = 5 0 1
            put 0 2 2 1 = 0
            table 0 = 5 0 5
            put 0 2 2 0 = 1
            table 0 = 5 0 1
            put 0 0 0 0 = 1
            table 0 = 4 0 1
            """);
        Runs.test("promise 3", "of a SLOT: of that SLOT alone", """
            make 0 3 2 = 3
            make 5 2 1 = 2
            put 0 0 2 1 = 0
            table 0 = 5 2 4
            table 5 = 3 3
            put 5 1 0 0 = 1
            table 0 = 5 2 4
            table 5 = 3 2
            """);
        Runs.test("promise 3", "i, j of n 12 and of n 1", """
            make 0 12 0 = 12
            put 0 11 11 1 = 0
            line 0 0 11 = 2048
            ! put 0 12 11 1 = BAD
            ! put 0 11 12 1 = BAD
            make 0 1 0 = 1
            put 0 0 0 1 = 0
            table 0 = 1
            ! put 0 1 0 1 = BAD
            ! put 0 0 1 1 = BAD
            """);
        Runs.test("promise 3", "v (0, 1)", """
            make 0 2 1 = 2
            put 0 1 1 0 = 1
            put 0 1 1 1 = 0
            ! put 0 1 1 2 = BAD
            ! put 0 1 1 -1 = BAD
            ! put 0 1 1 TOP = BAD
            ! put 0 1 1 LOW = BAD
            table 0 = 3 3
            """);
        Runs.test("promise 3", "what it was: where it stays the same, too, and that is the same anew", """
            make 0 2 2 = 2
            put 0 0 0 1 = 1
            put 0 0 1 0 = 0
            table 0 = 1 2
            count 2 = 3
            """);
        Runs.test("promise 3", "BAD: no such i, j", """
            make 0 3 1 = 3
            ! put 0 -1 0 0 = BAD
            ! put 0 3 0 0 = BAD
            ! put 0 0 -1 0 = BAD
            ! put 0 0 3 0 = BAD
            ! put 0 TOP 0 0 = BAD
            ! put 0 0 LOW 0 = BAD
            ! put 0 0 32 0 = BAD
            table 0 = 7 7 7
            """);
        Runs.test("promise 3", "BAD: no such slot, or it holds nothing", """
            make 0 3 1 = 3
            make 5 3 1 = 3
            put 5 0 0 0 = 1
            ! put 6 0 0 0 = BAD
            ! put -1 0 0 0 = BAD
            ! put 1 0 0 0 = BAD
            clear 5 = 3
            ! put 5 0 0 0 = BAD
            table 5 = nothing
            """);
    }

    private static void at() {
        Runs.test("promise 4", "Entry i, j of a SLOT, in each corner", """
            give 0 4 0 1
            ! at 0 0 0 = 0
            ! at 0 0 2 = 1
            ! at 0 2 0 = 1
            ! at 0 2 2 = 0
            """);
        Runs.test("promise 4", "BAD: no such i, j", """
            make 0 3 1 = 3
            ! at 0 -1 0 = BAD
            ! at 0 3 0 = BAD
            ! at 0 0 -1 = BAD
            ! at 0 0 3 = BAD
            ! at 0 LOW TOP = BAD
            ! at 0 0 32 = BAD
            """);
        Runs.test("promise 4", "BAD: no such slot, or it holds nothing", """
            make 5 3 1 = 3
            at 5 0 0 = 1
            ! at 6 0 0 = BAD
            ! at -1 0 0 = BAD
            ! at 0 0 0 = BAD
            """);
    }

    private static void line() {
        Runs.test("promise 5", "Row i (way 0), column i (1) of a SLOT: the first and the last", """
            give 0 6 1 2
            ! line 0 0 0 = 6
            ! line 0 0 2 = 2
            ! line 0 1 0 = 2
            ! line 0 1 1 = 5
            ! line 0 1 2 = 1
            make 0 1 1 = 1
            line 0 0 0 = 1
            line 0 1 0 = 1
            """);
        Runs.test("promise 5", "BAD: no such way", """
            make 0 3 1 = 3
            ! line 0 -1 0 = BAD
            ! line 0 2 0 = BAD
            ! line 0 TOP 0 = BAD
            """);
        Runs.test("promise 5", "BAD: no such i", """
            make 0 3 1 = 3
            ! line 0 0 -1 = BAD
            ! line 0 0 3 = BAD
            ! line 0 1 -1 = BAD
            ! line 0 1 3 = BAD
            ! line 0 1 LOW = BAD
            make 0 12 1 = 12
            line 0 1 11 = 4095
            ! line 0 0 12 = BAD
            ! line 0 1 12 = BAD
            """);
        Runs.test("promise 5", "BAD: no such slot, or it holds nothing", """
            make 5 3 1 = 3
            line 5 0 0 = 7
            ! line 6 0 0 = BAD
            ! line -1 1 0 = BAD
            ! line 0 0 0 = BAD
            """);
    }

    private static void setRow() {
        Runs.test("promise 6", "Row i of a SLOT becomes a set: what it was; the first row and the last alone", """
            make 0 3 2 = 3
            setRow 0 0 6 = 1
            table 0 = 6 2 4
            setRow 0 2 3 = 4
            table 0 = 6 2 3
            setRow 0 2 3 = 3
            count 2 = 4
            """);
        Runs.test("promise 6", "of a SLOT: of that SLOT alone", """
            make 0 3 2 = 3
            make 5 2 1 = 2
            setRow 0 0 6 = 1
            table 0 = 6 2 4
            table 5 = 3 3
            setRow 5 1 0 = 3
            table 0 = 6 2 4
            table 5 = 3 0
            """);
        Runs.test("promise 6", "a set: empty and full", """
            make 0 3 2 = 3
            setRow 0 1 0 = 2
            setRow 0 1 7 = 0
            table 0 = 1 7 4
            make 0 12 0 = 12
            setRow 0 11 4095 = 0
            setRow 0 11 0 = 4095
            """);
        Runs.test("promise 6", "BAD: also a bit that is no column", """
            make 0 3 2 = 3
            ! setRow 0 1 8 = BAD
            ! setRow 0 1 15 = BAD
            ! setRow 0 1 -1 = BAD
            ! setRow 0 1 LOW = BAD
            ! setRow 0 1 TOP = BAD
            table 0 = 1 2 4
            make 0 12 0 = 12
            ! setRow 0 0 4096 = BAD
            make 0 1 0 = 1
            setRow 0 0 1 = 0
            ! setRow 0 0 2 = BAD
            """);
        Runs.test("promise 6", "BAD: no such i", """
            make 0 3 2 = 3
            ! setRow 0 3 1 = BAD
            ! setRow 0 -1 1 = BAD
            make 0 12 0 = 12
            setRow 0 11 1 = 0
            ! setRow 0 12 1 = BAD
            """);
        Runs.test("promise 6", "BAD: no such slot, or it holds nothing", """
            make 5 3 2 = 3
            setRow 5 0 0 = 1
            ! setRow 6 0 0 = BAD
            ! setRow -1 0 0 = BAD
            ! setRow 0 0 0 = BAD
            """);
    }

    private static void times() {
        Runs.test("promise 7", "SLOT to holds the PRODUCT of SLOTS a, b: in that order", """
            give 0 2 0
            give 1 0 1
            times 0 1 2 = 2
            table 2 = 1 0
            times 1 0 2 = 2
            table 2 = 0 2
            """);
        Runs.test("promise 7", "SLOT to may be a, b or both", """
            give 0 2 4 1
            give 1 1 4 2
            times 0 1 0 = 3
            table 0 = 4 2 1
            undo = 0
            times 0 1 1 = 3
            table 1 = 4 2 1
            undo = 1
            times 0 0 0 = 3
            table 0 = 4 1 2
            """);
        Runs.test("promise 7", "n: of n 1 and 12; SLOT to held another n", """
            make 0 1 1 = 1
            make 5 4 0 = 4
            times 0 0 5 = 1
            table 5 = 1
            make 0 12 3 = 12
            times 0 0 5 = 12
            table 5 = 4 8 16 32 64 128 256 512 1024 2048 1 2
            undo = 5
            table 5 = 1
            """);
        Runs.test("promise 7", "BAD: a, b", """
            make 0 2 1 = 2
            make 5 2 1 = 2
            times 5 0 1 = 2
            times 0 5 1 = 2
            ! times 6 0 1 = BAD
            ! times -1 0 1 = BAD
            ! times 0 6 1 = BAD
            ! times 0 -1 1 = BAD
            ! times 2 0 1 = BAD
            ! times 0 2 1 = BAD
            ! times 2 2 1 = BAD
            """);
        Runs.test("promise 7", "BAD: no such slot to", """
            make 0 2 1 = 2
            times 0 0 5 = 2
            ! times 0 0 6 = BAD
            ! times 0 0 -1 = BAD
            ! times 0 0 LOW = BAD
            """);
        Runs.test("promise 7", "UNLIKE: TABLES of unlike n; BAD is named ahead", """
            make 0 2 1 = 2
            make 1 3 1 = 3
            ! times 0 1 2 = UNLIKE
            ! times 1 0 0 = UNLIKE
            ! times 0 1 6 = BAD
            ! times 0 1 -1 = BAD
            ! times 0 4 2 = BAD
            table 2 = nothing
            """);
    }

    private static void plus() {
        Runs.test("promise 8", "SLOT to holds the SUM of SLOTS a, b, and may be one of them", """
            give 0 2 0 5
            give 1 1 0 4
            plus 0 1 5 = 3
            table 5 = 3 0 5
            plus 0 1 0 = 3
            table 0 = 3 0 5
            undo = 0
            plus 0 1 1 = 3
            table 1 = 3 0 5
            plus 1 1 1 = 3
            table 1 = 3 0 5
            """);
        Runs.test("promise 8", "n: of n 1 and 12", """
            make 0 1 0 = 1
            make 1 1 1 = 1
            plus 0 1 0 = 1
            table 0 = 1
            make 0 12 2 = 12
            make 1 12 3 = 12
            plus 0 1 0 = 12
            table 0 = 3 6 12 24 48 96 192 384 768 1536 3072 2049
            """);
        Runs.test("promise 8", "BAD", """
            make 0 2 1 = 2
            make 5 2 1 = 2
            plus 5 0 5 = 2
            ! plus 6 0 1 = BAD
            ! plus -1 0 1 = BAD
            ! plus 0 6 1 = BAD
            ! plus 0 -1 1 = BAD
            ! plus 2 0 1 = BAD
            ! plus 0 2 1 = BAD
            ! plus 0 0 6 = BAD
            ! plus 0 0 -1 = BAD
            """);
        Runs.test("promise 8", "UNLIKE: BAD is named ahead", """
            make 0 2 1 = 2
            make 1 3 1 = 3
            ! plus 0 1 2 = UNLIKE
            ! plus 1 0 1 = UNLIKE
            ! plus 0 1 6 = BAD
            ! plus 0 1 -1 = BAD
            ! plus 4 1 2 = BAD
            """);
    }

    private static void power() {
        Runs.test("promise 9", "POWER k (0 .. 1000000): the least", """
            give 0 2 4 1
            ! power 0 -1 1 = BAD
            power 0 0 1 = 3
            table 1 = 1 2 4
            power 0 1 1 = 3
            table 1 = 2 4 1
            ! power 0 LOW 1 = BAD
            """);
        Runs.test("promise 9", "POWER k (0 .. 1000000): the greatest", """
            make 0 12 3 = 12
            power 0 1000000 1 = 12
            table 1 = 16 32 64 128 256 512 1024 2048 1 2 4 8
            power 0 999999 1 = 12
            table 1 = 8 16 32 64 128 256 512 1024 2048 1 2 4
            ! power 0 1000001 1 = BAD
            ! power 0 TOP 1 = BAD
            table 1 = 8 16 32 64 128 256 512 1024 2048 1 2 4
            """);
        Runs.test("promise 9", "POWER k: each bit of k counts", """
            make 0 11 3 = 11
            power 0 524288 1 = 11
            line 1 0 0 = 64
            power 0 262144 1 = 11
            line 1 0 0 = 8
            power 0 65536 1 = 11
            line 1 0 0 = 512
            power 0 1024 1 = 11
            line 1 0 0 = 2
            """);
        Runs.test("promise 9", "SLOT to may be SLOT a: n", """
            make 0 5 3 = 5
            power 0 3 0 = 5
            table 0 = 8 16 1 2 4
            make 0 1 0 = 1
            power 0 1000000 0 = 1
            table 0 = 0
            power 0 0 0 = 1
            table 0 = 1
            """);
        Runs.test("promise 9", "BAD: a, no such slot to", """
            make 5 2 1 = 2
            power 5 2 0 = 2
            power 0 2 5 = 2
            ! power 6 2 0 = BAD
            ! power -1 2 0 = BAD
            ! power 1 2 0 = BAD
            ! power 1 0 0 = BAD
            ! power 0 2 6 = BAD
            ! power 0 2 -1 = BAD
            """);
    }

    private static void derive() {
        Runs.test("promise 10", "what 0 itself", """
            give 0 2 4 0
            derive 0 0 1 = 3
            table 1 = 2 4 0
            derive 0 0 0 = 3
            table 0 = 2 4 0
            count 2 = 6
            """);
        Runs.test("promise 10", "1 its TRANSPOSE, into itself, too", """
            give 0 2 4 0
            derive 0 1 1 = 3
            table 1 = 0 1 2
            derive 0 1 0 = 3
            table 0 = 0 1 2
            """);
        Runs.test("promise 10", "2 its COMPLEMENT, into itself, too", """
            give 0 2 4 0
            derive 0 2 1 = 3
            table 1 = 5 3 7
            derive 0 2 0 = 3
            table 0 = 5 3 7
            """);
        Runs.test("promise 10", "3 its CLOSURE, into itself, too", """
            give 0 2 4 0
            derive 0 3 1 = 3
            table 1 = 6 4 0
            derive 0 3 0 = 3
            table 0 = 6 4 0
            """);
        Runs.test("promise 10", "4 its GREATEST X, into itself, too", """
            give 0 2 4 0
            derive 0 4 1 = 3
            table 1 = 7 5 6
            derive 0 4 0 = 3
            table 0 = 7 5 6
            """);
        Runs.test("promise 10", "GREATEST X of empty and full ones, and of UNIT", """
            make 0 3 0 = 3
            derive 0 4 1 = 3
            table 1 = 7 7 7
            make 0 3 1 = 3
            derive 0 4 1 = 3
            table 1 = 7 7 7
            make 0 3 2 = 3
            derive 0 4 1 = 3
            table 1 = 1 2 4
            make 0 1 0 = 1
            derive 0 4 1 = 1
            table 1 = 1
            make 0 12 3 = 12
            derive 0 4 1 = 12
            table 1 = 2048 1 2 4 8 16 32 64 128 256 512 1024
            """);
        Runs.test("promise 10", "BAD: no such what", """
            make 0 2 2 = 2
            ! derive 0 -1 1 = BAD
            ! derive 0 5 1 = BAD
            ! derive 0 TOP 1 = BAD
            ! derive 0 LOW 1 = BAD
            """);
        Runs.test("promise 10", "BAD: a, no such slot to", """
            make 5 2 2 = 2
            derive 5 0 0 = 2
            derive 0 0 5 = 2
            ! derive 6 0 0 = BAD
            ! derive -1 0 0 = BAD
            ! derive 1 0 0 = BAD
            ! derive 1 2 2 = BAD
            ! derive 0 0 6 = BAD
            ! derive 0 0 -1 = BAD
            """);
    }

    private static void clear() {
        Runs.test("promise 11", "A SLOT holds nothing: the n it had", """
            make 0 1 0 = 1
            make 5 12 1 = 12
            clear 0 = 1
            clear 5 = 12
            table 0 = nothing
            table 5 = nothing
            count 0 = 0
            ! at 5 0 0 = BAD
            """);
        Runs.test("promise 11", "(0: it held nothing; THE LOG gets nothing then)", """
            ! clear 0 = 0
            make 0 2 1 = 2
            clear 0 = 2
            count 2 = 2
            ! clear 0 = 0
            count 2 = 2
            undo = 0
            table 0 = 3 3
            """);
        Runs.test("promise 11", "took it off: THE LOG gets that", """
            make 3 2 1 = 2
            clear 3 = 2
            count 2 = 2
            undo = 3
            table 3 = 3 3
            """);
        Runs.test("promise 11", "BAD", """
            make 0 2 1 = 2
            make 5 2 1 = 2
            ! clear 6 = BAD
            ! clear -1 = BAD
            ! clear TOP = BAD
            ! clear LOW = BAD
            """);
    }

    private static void same() {
        Runs.test("promise 12", "1 if SLOTS hold the same TABLE, else 0: an entry in a corner makes it another", """
            make 0 12 0 = 12
            make 5 12 0 = 12
            ! same 0 5 = 1
            ! same 5 0 = 1
            ! same 0 0 = 1
            put 5 0 0 1 = 0
            ! same 0 5 = 0
            put 5 0 0 0 = 1
            put 5 11 11 1 = 0
            ! same 0 5 = 0
            ! same 5 0 = 0
            """);
        Runs.test("promise 12", "of unlike n it is not the same TABLE", """
            make 0 2 0 = 2
            make 1 3 0 = 3
            make 2 1 0 = 1
            ! same 0 1 = 0
            ! same 1 0 = 0
            ! same 2 0 = 0
            """);
        Runs.test("promise 12", "BAD", """
            make 0 2 0 = 2
            ! same 6 0 = BAD
            ! same -1 0 = BAD
            ! same 0 6 = BAD
            ! same 0 -1 = BAD
            ! same 1 0 = BAD
            ! same 0 1 = BAD
            ! same 1 2 = BAD
            ! same 1 1 = BAD
            """);
    }

    private static void load() {
        Runs.test("promise 13", "the TABLE of n whose rows stand in a SHEET from number from on", """
            sheet 3 1 40 = 1
            cell 3 0 1 = 1
            cell 3 38 1 = 1
            cell 3 39 2 = 1
            load 5 3 0 1 = 1
            table 5 = 1
            load 5 3 38 2 = 2
            table 5 = 1 2
            load 5 3 28 12 = 12
            table 5 = 0 0 0 0 0 0 0 0 0 0 1 2
            count 2 = 3
            """);
        Runs.test("promise 13", "BAD: no such slot", """
            sheet 0 1 3 = 1
            load 0 0 0 3 = 3
            load 5 0 0 3 = 3
            ! load 6 0 0 3 = BAD
            ! load -1 0 0 3 = BAD
            """);
        Runs.test("promise 13", "BAD: no such sheet", """
            sheet 0 1 3 = 1
            sheet 3 1 3 = 1
            load 0 0 0 3 = 3
            load 0 3 0 3 = 3
            ! load 0 4 0 3 = BAD
            ! load 0 -1 0 3 = BAD
            """);
        Runs.test("promise 13", "BAD: no such n", """
            sheet 0 1 40 = 1
            load 0 0 0 1 = 1
            load 0 0 0 12 = 12
            ! load 0 0 0 0 = BAD
            ! load 0 0 0 13 = BAD
            ! load 0 0 0 -1 = BAD
            ! load 0 0 0 LOW = BAD
            """);
        Runs.test("promise 13", "NOTHING; BAD of slot, sheet, n is named ahead of it, OUTSIDE behind", """
            make 1 2 1 = 2
            ! load 1 0 0 2 = NOTHING
            ! load 1 0 -1 2 = NOTHING
            ! load 1 0 41 2 = NOTHING
            ! load 6 0 0 2 = BAD
            ! load 1 4 0 2 = BAD
            ! load 1 0 0 0 = BAD
            ! load 1 0 0 13 = BAD
            table 1 = 3 3
            """);
        Runs.test("promise 13", "OUTSIDE: they are not all there", """
            sheet 0 1 4 = 1
            load 0 0 0 4 = 4
            load 0 0 2 2 = 2
            load 0 0 3 1 = 1
            ! load 0 0 0 5 = OUTSIDE
            ! load 0 0 3 2 = OUTSIDE
            ! load 0 0 4 1 = OUTSIDE
            ! load 0 0 -1 1 = OUTSIDE
            ! load 0 0 -1 4 = OUTSIDE
            ! load 0 0 TOP 1 = OUTSIDE
            ! load 0 0 LOW 4 = OUTSIDE
            sheet 0 1 0 = 1
            ! load 0 0 0 1 = OUTSIDE
            table 0 = 0
            """);
        Runs.test("promise 13", "OUTSIDE: BAD of slot, sheet, n is named ahead", """
            sheet 0 1 4 = 1
            ! load 6 0 4 1 = BAD
            ! load 0 4 4 1 = BAD
            ! load 0 0 4 0 = BAD
            ! load 0 0 0 13 = BAD
            """);
        Runs.test("promise 13", "BAD: one has a bit that is no column: the first and the last of them", """
            sheet 0 1 5 = 1
            make 0 2 1 = 2
            cell 0 1 8 = 1
            ! load 0 0 1 3 = BAD
            cell 0 1 7 = 1
            load 0 0 1 3 = 3
            cell 0 3 8 = 1
            ! load 0 0 1 3 = BAD
            table 0 = 7 0 0
            cell 0 3 7 = 1
            load 0 0 1 3 = 3
            table 0 = 7 0 7
            """);
        Runs.test("promise 13", "BAD: a bit that is no column: of n 1 and 12, and below 0", """
            sheet 0 1 12 = 1
            cell 0 0 1 = 1
            load 0 0 0 1 = 1
            cell 0 0 2 = 1
            ! load 0 0 0 1 = BAD
            cell 0 0 4095 = 1
            load 0 0 0 12 = 12
            line 0 0 0 = 4095
            cell 0 0 4096 = 1
            ! load 0 0 0 12 = BAD
            cell 0 0 -1 = 1
            ! load 0 0 0 12 = BAD
            cell 0 0 LOW = 1
            ! load 0 0 0 12 = BAD
            """);
        Runs.test("promise 13", "OUTSIDE is named ahead of a bit that is no column; numbers around the rows don't matter", """
            sheet 0 1 4 = 1
            cell 0 0 99 = 1
            cell 0 3 99 = 1
            load 0 0 1 2 = 2
            ! load 0 0 3 2 = OUTSIDE
            ! load 0 0 2 2 = BAD
            ! load 0 0 0 2 = BAD
            """);
        Runs.test("promise 13", "(in a SHEET of bytes a row is what remains of the number by 256)", """
            sheet 0 0 9 = 1
            cell 0 0 255 = 1
            load 0 0 0 8 = 8
            table 0 = 255 0 0 0 0 0 0 0
            ! load 0 0 0 7 = BAD
            cell 0 0 128 = 1
            load 0 0 0 9 = 9
            line 0 0 0 = 128
            ! load 0 0 0 7 = BAD
            cell 0 0 127 = 1
            load 0 0 0 7 = 7
            line 0 0 0 = 127
            """);
    }

    private static void spill() {
        Runs.test("promise 14", "Rows of a SLOT come to a SHEET from number from on", """
            give 5 1 4 2
            sheet 3 1 5 = 1
            spill 5 3 0 = 3
            row 3 0 = 1 4 2 0 0
            spill 5 3 2 = 3
            row 3 0 = 1 4 1 4 2
            count 2 = 4
            table 5 = 1 4 2
            """);
        Runs.test("promise 14", "as many as have room: how many", """
            give 0 1 4 2
            sheet 0 1 5 = 1
            spill 0 0 2 = 3
            spill 0 0 3 = 2
            row 0 0 = 0 0 1 1 4
            spill 0 0 4 = 1
            row 0 0 = 0 0 1 1 1
            ! spill 0 0 5 = 0
            """);
        Runs.test("promise 14", "as many as have room: in a full SHEET and in one of no numbers", """
            make 0 12 3 = 12
            sheet 0 1 40 = 1
            spill 0 0 28 = 12
            row 0 27 = 0 2 4 8 16 32 64 128 256 512 1024 2048 1
            spill 0 0 39 = 1
            row 0 38 = 2048 2
            ! spill 0 0 40 = 0
            ! spill 0 0 41 = OUTSIDE
            sheet 1 1 0 = 1
            ! spill 0 1 0 = 0
            ! spill 0 1 1 = OUTSIDE
            """);
        Runs.test("promise 14", "(bytes: lowest 8 bits)", """
            make 0 12 3 = 12
            sheet 0 0 12 = 1
            spill 0 0 0 = 12
            row 0 0 = 2 4 8 16 32 64 -128 0 0 0 0 1
            give 1 255 0 0 0 0 0 0 127
            spill 1 0 4 = 8
            row 0 4 = -1 0 0 0 0 0 0 127
            """);
        Runs.test("promise 14", "BAD: slot", """
            make 0 1 1 = 1
            make 5 1 1 = 1
            sheet 0 1 2 = 1
            spill 0 0 0 = 1
            spill 5 0 0 = 1
            ! spill 6 0 0 = BAD
            ! spill -1 0 0 = BAD
            ! spill 1 0 0 = BAD
            """);
        Runs.test("promise 14", "BAD: sheet", """
            make 0 1 1 = 1
            sheet 0 1 2 = 1
            sheet 3 1 2 = 1
            spill 0 0 0 = 1
            spill 0 3 0 = 1
            ! spill 0 4 0 = BAD
            ! spill 0 -1 0 = BAD
            """);
        Runs.test("promise 14", "NOTHING: BAD is named ahead of it, OUTSIDE behind", """
            make 0 1 1 = 1
            ! spill 0 0 0 = NOTHING
            ! spill 0 3 -1 = NOTHING
            ! spill 0 3 41 = NOTHING
            ! spill 1 0 0 = BAD
            ! spill 6 0 0 = BAD
            ! spill 0 4 0 = BAD
            """);
        Runs.test("promise 14", "OUTSIDE: from is below 0 or above how many numbers it has", """
            make 0 3 1 = 3
            sheet 0 1 4 = 1
            spill 0 0 0 = 3
            ! spill 0 0 -1 = OUTSIDE
            spill 0 0 4 = 0
            ! spill 0 0 5 = OUTSIDE
            ! spill 0 0 LOW = OUTSIDE
            ! spill 0 0 TOP = OUTSIDE
            row 0 0 = 7 7 7 0
            ! spill 1 0 5 = BAD
            ! spill 0 4 5 = BAD
            """);
    }
}
