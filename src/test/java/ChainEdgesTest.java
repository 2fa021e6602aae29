/** The edges of the terms on the chain and the log, and of promises 30 to 36: a test for each sentence that names one. */
public final class ChainEdgesTest {
    public static void main(String[] args) {
        chain();
        kinds();
        held();
        runs();
        stops();
        reasons();
        log();
        link();
        run();
        would();
        closingAndReason();
        loosen();
        undo();
        Runs.end();
    }

    private static void chain() {
        Runs.test("term 2", "THE CHAIN has LINKS (8 at most, none at first)", """
            count 1 = 0
            link 0 0 = 1
            count 1 = 1
            link 1 0 = 2
            link 3 0 = 3
            link 4 0 = 4
            link 5 0 = 5
            link 0 0 = 6
            link 1 0 = 7
            link 4 99 = 8
            count 1 = 8
            ! link 0 0 = FULL
            count 1 = 8
            """);
        Runs.test("term 2", "told by a kind, and a number m: kind (0 .. 6)", """
            make 0 2 1 = 2
            ! link -1 0 = BAD
            link 0 0 = 1
            link 6 0 = 2
            ! link 7 0 = BAD
            ! link LOW 0 = BAD
            ! link TOP 0 = BAD
            """);
        Runs.test("term 2", "A RUN goes through all LINKS, the first ahead", """
            link 4 2 = 1
            link 1 0 = 2
            give 0 2 0
            run 0 = 2
            table 0 = 3 3
            loosen = 2
            link 1 0 = 1
            link 4 2 = 2
            give 0 2 0
            run 0 = 2
            table 0 = 1 3
            """);
        Runs.test("term 2", "A RUN goes through all LINKS: through none, too, and through 8", """
            give 0 2 4 0
            run 0 = 3
            table 0 = 2 4 0
            closings = none
            reasons = none
            link 1 0 = 1
            link 1 0 = 2
            link 1 0 = 3
            link 1 0 = 4
            link 1 0 = 5
            link 1 0 = 6
            link 1 0 = 7
            run 0 = 3
            table 0 = 5 3 7
            link 0 0 = 8
            run 0 = 3
            table 0 = 0 1 2
            closings = 7 6 5 4 3 2 1 0
            """);
    }

    private static void kinds() {
        Runs.test("term 2", "kind 0 its TRANSPOSE; m doesn't matter", """
            link 0 LOW = 1
            give 0 2 4 0
            run 0 = 3
            table 0 = 0 1 2
            """);
        Runs.test("term 2", "kind 1 its COMPLEMENT; m doesn't matter", """
            link 1 TOP = 1
            give 0 2 4 0
            run 0 = 3
            table 0 = 5 3 7
            """);
        Runs.test("term 2", "kind 2 the PRODUCT of it and what SLOT m held", """
            give 1 0 1
            link 2 1 = 1
            give 0 2 0
            run 0 = 2
            table 0 = 1 0
            """);
        Runs.test("term 2", "kind 3 the SUM of it and what SLOT m holds", """
            give 1 0 1
            link 3 1 = 1
            give 0 2 0
            run 0 = 2
            table 0 = 2 1
            """);
        Runs.test("term 2", "kind 4 its POWER m (0 .. 99)", """
            link 4 99 = 1
            make 0 12 3 = 12
            run 0 = 12
            table 0 = 8 16 32 64 128 256 512 1024 2048 1 2 4
            loosen = 1
            link 4 0 = 1
            run 0 = 12
            table 0 = 1 2 4 8 16 32 64 128 256 512 1024 2048
            loosen = 1
            link 4 1 = 1
            make 0 2 0 = 2
            run 0 = 2
            table 0 = 0 0
            loosen = 1
            link 4 0 = 1
            run 0 = 2
            table 0 = 1 2
            """);
        Runs.test("term 2", "kind 5 its CLOSURE; m doesn't matter", """
            link 5 -1 = 1
            give 0 2 4 0
            run 0 = 3
            table 0 = 6 4 0
            """);
        Runs.test("term 2", "kind 6 the MEET of it and what SLOT m held", """
            give 1 3 1
            link 6 1 = 1
            give 0 6 5 0
            give 0 2 3
            run 0 = 2
            table 0 = 2 1
            """);
    }

    private static void held() {
        Runs.test("term 2", "2: as the LINK came: SLOT m holds another TABLE now", """
            make 1 2 2 = 2
            link 2 1 = 1
            make 1 2 0 = 2
            give 0 2 0
            run 0 = 2
            table 0 = 2 0
            make 1 3 1 = 3
            run 0 = 2
            table 0 = 2 0
            """);
        Runs.test("term 2", "2: as the LINK came: SLOT m holds nothing now, or its entries became others", """
            make 1 2 2 = 2
            link 2 1 = 1
            give 0 2 0
            put 1 0 0 0 = 1
            put 1 1 1 0 = 1
            run 0 = 2
            table 0 = 2 0
            clear 1 = 2
            run 0 = 2
            table 0 = 2 0
            """);
        Runs.test("term 2", "6: as the LINK came: SLOT m holds another TABLE, or nothing now", """
            give 1 3 0
            link 6 1 = 1
            make 0 2 1 = 2
            make 1 2 0 = 2
            run 0 = 2
            table 0 = 3 0
            clear 1 = 2
            run 0 = 2
            table 0 = 3 0
            make 1 12 1 = 12
            run 0 = 2
            """);
        Runs.test("term 2", "2, 6: as the LINK came: what came to SLOT m is undone", """
            make 1 2 2 = 2
            link 6 1 = 1
            link 2 1 = 2
            undo = 1
            table 1 = nothing
            make 0 2 1 = 2
            run 0 = 2
            table 0 = 1 2
            """);
        Runs.test("term 2", "2, 6: each LINK holds its own", """
            give 1 1 0
            link 6 1 = 1
            give 1 3 0
            link 6 1 = 2
            make 0 2 1 = 2
            run 0 = 2
            table 0 = 1 0
            loosen = 2
            link 6 1 = 1
            make 0 2 1 = 2
            run 0 = 2
            table 0 = 3 0
            """);
        Runs.test("term 2", "3: what SLOT m holds: as the RUN comes to it", """
            link 3 1 = 1
            make 0 2 2 = 2
            run 0 = -20
            make 1 2 0 = 2
            run 0 = 2
            table 0 = 1 2
            put 1 0 1 1 = 0
            run 0 = 2
            table 0 = 3 2
            make 1 3 0 = 3
            run 0 = -20
            clear 1 = 3
            run 0 = -20
            table 0 = 3 2
            """);
        Runs.test("promise 31", "(SLOTS are as ahead of the RUN till then): 3 of the SLOT that runs", """
            link 1 0 = 1
            link 3 0 = 2
            give 0 2 0
            run 0 = 2
            table 0 = 3 3
            loosen = 2
            link 4 2 = 1
            link 3 0 = 2
            link 4 2 = 3
            link 3 0 = 4
            give 0 2 4 8 0
            run 0 = 4
            table 0 = 14 12 8 0
            """);
        Runs.test("term 2", "2, 6 of the SLOT that runs", """
            make 0 3 3 = 3
            link 2 0 = 1
            run 0 = 3
            table 0 = 4 1 2
            run 0 = 3
            table 0 = 1 2 4
            """);
    }

    private static void runs() {
        Runs.test("term 2", "the CLOSINGS of the latest RUN are the places of these LINKS (from 0) in that order", """
            make 0 2 1 = 2
            link 0 0 = 1
            run 0 = 2
            closings = 0
            link 1 0 = 2
            link 5 0 = 3
            run 0 = 2
            closings = 2 1 0
            would 0 = 4
            closings = 2 1 0
            """);
        Runs.test("term 2", "By each it comes to, that LINK is BORROWED: where it STOPS, too, and none behind", """
            make 0 2 1 = 2
            link 0 0 = 1
            link 3 5 = 2
            link 0 0 = 3
            run 0 = -21
            closings = 1 0
            """);
        Runs.test("term 2", "when the RUN ends, all that are BORROWED are given back", """
            make 0 2 1 = 2
            link 0 0 = 1
            link 3 5 = 2
            run 0 = -21
            count 4 = 0
            would 0 = -21
            count 4 = 0
            make 5 2 0 = 2
            run 0 = 2
            count 4 = 0
            closings = 1 0
            """);
        Runs.test("term 2", "of the latest RUN: a longer one ahead leaves nothing", """
            make 0 2 1 = 2
            link 0 0 = 1
            link 0 0 = 2
            link 0 0 = 3
            run 0 = 2
            closings = 2 1 0
            loosen = 3
            link 0 0 = 1
            run 0 = 2
            closings = 0
            loosen = 1
            run 0 = 2
            closings = none
            """);
    }

    private static void stops() {
        Runs.test("term 2", "A RUN STOPS at a LINK (2) whose other TABLE is of another n", """
            make 1 3 1 = 3
            link 2 1 = 1
            make 0 2 1 = 2
            run 0 = -20
            reasons = 0 2 3
            closings = 0
            table 0 = 3 3
            make 0 4 1 = 4
            run 0 = -20
            make 0 3 1 = 3
            run 0 = 3
            reasons = none
            """);
        Runs.test("term 2", "A RUN STOPS at a LINK (3) whose other TABLE is of another n", """
            make 1 3 1 = 3
            link 3 1 = 1
            make 0 2 1 = 2
            run 0 = -20
            reasons = 0 3 3
            table 0 = 3 3
            make 0 4 1 = 4
            run 0 = -20
            make 0 3 1 = 3
            run 0 = 3
            """);
        Runs.test("term 2", "A RUN STOPS at a LINK (6) whose other TABLE is of another n", """
            make 1 3 1 = 3
            link 6 1 = 1
            make 0 2 1 = 2
            run 0 = -20
            reasons = 0 6 3
            table 0 = 3 3
            make 0 4 1 = 4
            run 0 = -20
            make 0 3 1 = 3
            run 0 = 3
            """);
        Runs.test("term 2", "or (3) whose SLOT holds nothing", """
            link 3 5 = 1
            make 0 2 1 = 2
            run 0 = -20
            reasons = 0 3 105
            make 5 2 1 = 2
            run 0 = 2
            clear 5 = 2
            run 0 = -20
            reasons = 0 3 105
            """);
        Runs.test("term 2", "STOPS: not at LINKS 0, 1, 4, 5, whatever is in SLOT m", """
            make 1 3 1 = 3
            make 0 2 2 = 2
            link 0 1 = 1
            link 1 4 = 2
            link 4 1 = 3
            link 5 5 = 4
            link 0 77 = 5
            run 0 = 2
            table 0 = 3 3
            """);
    }

    private static void reasons() {
        Runs.test("term 2", "REASONS: 0 the place of the LINK, 1 its kind: the first place and the last", """
            make 0 1 1 = 1
            link 3 0 = 1
            link 3 0 = 2
            link 3 0 = 3
            link 3 0 = 4
            link 3 0 = 5
            link 3 0 = 6
            link 3 0 = 7
            link 3 1 = 8
            run 0 = -27
            reasons = 7 3 101
            closings = 7 6 5 4 3 2 1 0
            loosen = 8
            link 3 1 = 1
            run 0 = -20
            reasons = 0 3 101
            """);
        Runs.test("term 2", "REASONS: 2 the other n: 1 and 12", """
            make 1 1 0 = 1
            make 2 12 0 = 12
            make 0 2 1 = 2
            link 3 1 = 1
            run 0 = -20
            reasons = 0 3 1
            loosen = 1
            link 2 2 = 1
            run 0 = -20
            reasons = 0 2 12
            loosen = 1
            link 6 1 = 1
            run 0 = -20
            reasons = 0 6 1
            """);
        Runs.test("term 2", "REASONS: or 100 and the SLOT that holds nothing: 0 and 5", """
            make 1 2 0 = 2
            link 3 0 = 1
            run 1 = -20
            reasons = 0 3 100
            loosen = 1
            link 3 5 = 1
            run 1 = -20
            reasons = 0 3 105
            """);
        Runs.test("term 2", "REASONS of the latest RUN, if it STOPPED", """
            make 0 2 0 = 2
            link 3 5 = 1
            would 0 = -20
            reasons = 0 3 105
            make 5 2 0 = 2
            would 0 = 0
            reasons = none
            clear 5 = 2
            reasons = none
            run 0 = -20
            reasons = 0 3 105
            loosen = 1
            run 0 = 2
            reasons = none
            """);
        Runs.test("term 2", "STOPS at the first of two", """
            make 0 2 0 = 2
            link 3 5 = 1
            link 3 4 = 2
            run 0 = -20
            reasons = 0 3 105
            make 5 2 0 = 2
            run 0 = -21
            reasons = 1 3 104
            """);
    }

    private static void log() {
        Runs.test("term 2", "of each act that truly gave a SLOT another TABLE, or took it off, what the SLOT held ahead of it", """
            make 0 2 2 = 2
            put 0 0 1 1 = 0
            setRow 0 1 0 = 2
            times 0 0 1 = 2
            plus 0 1 2 = 2
            power 0 0 3 = 2
            derive 0 2 4 = 2
            sheet 0 1 2 = 1
            load 5 0 0 2 = 2
            root 3 2 5 = 6
            clear 4 = 2
            link 1 0 = 1
            run 5 = 2
            table 5 = 1 2
            count 2 = 11
            undo = 5
            table 5 = 2 1
            undo = 4
            table 4 = 0 3
            undo = 5
            table 5 = 0 0
            undo = 5
            table 5 = nothing
            undo = 4
            table 4 = nothing
            undo = 3
            table 3 = nothing
            undo = 2
            table 2 = nothing
            undo = 1
            table 1 = nothing
            table 0 = 3 0
            undo = 0
            table 0 = 3 2
            undo = 0
            table 0 = 1 2
            undo = 0
            table 0 = nothing
            undo = NONE
            """);
        Runs.test("term 2", "or the same anew", """
            make 0 1 1 = 1
            make 0 1 1 = 1
            put 0 0 0 1 = 1
            setRow 0 0 1 = 1
            times 0 0 0 = 1
            plus 0 0 0 = 1
            power 0 1 0 = 1
            derive 0 0 0 = 1
            sheet 0 1 1 = 1
            spill 0 0 0 = 1
            load 0 0 0 1 = 1
            root 0 2 0 = 1
            run 0 = 1
            count 2 = 11
            10 * undo = 0
            table 0 = 1
            undo = 0
            table 0 = nothing
            undo = NONE
            """);
        Runs.test("term 2", "the latest 20 of them: 20 are all there", """
            make 0 12 1 = 12
            19 * put 0 0 0 1 = 1
            count 2 = 20
            19 * undo = 0
            told 0 5 = 144
            undo = 0
            table 0 = nothing
            undo = NONE
            count 2 = 0
            """);
        Runs.test("term 2", "the latest 20 of them: of 21 the oldest is gone", """
            make 0 12 1 = 12
            20 * put 0 0 0 1 = 1
            count 2 = 20
            20 * undo = 0
            count 2 = 0
            undo = NONE
            told 0 5 = 144
            """);
        Runs.test("term 2", "the latest 20 of them: after many, some undone, and more", """
            45 * make 0 1 1 = 1
            make 1 2 0 = 2
            make 2 3 0 = 3
            undo = 2
            undo = 1
            count 2 = 18
            make 3 4 0 = 4
            make 3 5 0 = 5
            make 3 6 0 = 6
            count 2 = 20
            undo = 3
            table 3 = 0 0 0 0 0
            undo = 3
            table 3 = 0 0 0 0
            undo = 3
            table 3 = nothing
            17 * undo = 0
            undo = NONE
            table 0 = 1
            """);
        Runs.test("term 2", "acts that give no SLOT a TABLE are not in it", """
            make 0 2 2 = 2
            sheet 0 1 4 = 1
            cell 0 0 1 = 1
            spill 0 0 0 = 2
            shift 0 0 0 2 2 = 2
            link 2 0 = 1
            would 0 = 2
            loosen = 1
            sheet 0 -1 0 = 1
            clear 1 = 0
            count 2 = 1
            undo = 0
            count 2 = 0
            """);
    }

    private static void link() {
        Runs.test("promise 30", "BAD: m (of kind 2 a SLOT that holds a TABLE)", """
            make 0 2 1 = 2
            make 5 2 1 = 2
            link 2 0 = 1
            link 2 5 = 2
            ! link 2 6 = BAD
            ! link 2 -1 = BAD
            ! link 2 1 = BAD
            ! link 2 LOW = BAD
            clear 5 = 2
            ! link 2 5 = BAD
            """);
        Runs.test("promise 30", "BAD: m (of kind 6 a SLOT that holds a TABLE)", """
            make 0 2 1 = 2
            make 5 2 1 = 2
            link 6 0 = 1
            link 6 5 = 2
            ! link 6 6 = BAD
            ! link 6 -1 = BAD
            ! link 6 1 = BAD
            ! link 6 TOP = BAD
            """);
        Runs.test("promise 30", "BAD: m (of kind 3 any SLOT)", """
            link 3 0 = 1
            link 3 5 = 2
            ! link 3 6 = BAD
            ! link 3 -1 = BAD
            ! link 3 LOW = BAD
            ! link 3 TOP = BAD
            """);
        Runs.test("promise 30", "BAD: m (of kind 4 0 .. 99)", """
            link 4 0 = 1
            link 4 99 = 2
            ! link 4 100 = BAD
            ! link 4 -1 = BAD
            ! link 4 LOW = BAD
            ! link 4 TOP = BAD
            """);
        Runs.test("promise 30", "of kinds 0, 1, 5 any m", """
            link 0 -1 = 1
            link 0 100 = 2
            link 1 LOW = 3
            link 1 6 = 4
            link 5 TOP = 5
            link 5 -100 = 6
            """);
        String eight = """
            link 0 0 = 1
            link 0 0 = 2
            link 0 0 = 3
            link 0 0 = 4
            link 0 0 = 5
            link 0 0 = 6
            link 0 0 = 7
            link 0 0 = 8
            """;
        Runs.test("promise 30", "FULL: there are 8; BAD is named ahead", eight + """
            ! link 0 0 = FULL
            ! link 3 5 = FULL
            ! link 4 99 = FULL
            ! link 7 0 = BAD
            ! link -1 0 = BAD
            ! link 4 100 = BAD
            ! link 3 6 = BAD
            ! link 2 0 = BAD
            ! link 6 0 = BAD
            """);
        Runs.test("promise 30", "FULL: what a LINK would have held is held by none", """
            make 0 2 2 = 2
            link 2 0 = 1
            link 2 0 = 2
            link 2 0 = 3
            link 2 0 = 4
            link 2 0 = 5
            link 2 0 = 6
            link 2 0 = 7
            link 2 0 = 8
            make 0 2 3 = 2
            ! link 2 0 = FULL
            run 0 = 2
            table 0 = 2 1
            """);
    }

    private static void run() {
        Runs.test("promise 31", "the SLOT holds what comes of it: n: of n 1 and 12", """
            link 1 0 = 1
            make 0 1 1 = 1
            run 0 = 1
            table 0 = 0
            make 5 12 1 = 12
            run 5 = 12
            told 5 5 = 0
            """);
        Runs.test("promise 31", "-20 less the place of the LINK where it STOPS (the SLOT stays)", """
            make 0 3 3 = 3
            link 1 0 = 1
            link 5 0 = 2
            link 3 5 = 3
            run 0 = -22
            table 0 = 2 4 1
            count 2 = 1
            undo = 0
            """);
        Runs.test("promise 31", "BAD: there is no RUN then: CLOSINGS and REASONS stay", """
            make 0 3 3 = 3
            link 0 0 = 1
            link 3 5 = 2
            run 0 = -21
            ! run 5 = BAD
            ! run 6 = BAD
            ! run -1 = BAD
            ! run LOW = BAD
            ! run TOP = BAD
            closings = 1 0
            reasons = 1 3 105
            """);
        Runs.test("promise 31", "a RUN that STOPS changes the CLOSINGS and REASONS", """
            make 0 2 3 = 2
            link 0 0 = 1
            run 0 = 2
            closings = 0
            link 3 5 = 2
            run 0 = -21
            closings = 1 0
            reasons = 1 3 105
            """);
    }

    private static void would() {
        Runs.test("promise 32", "the SLOT stays at any rate; told is how many 1 there are in what comes of it: none and all", """
            make 0 12 0 = 12
            would 0 = 0
            link 1 0 = 1
            would 0 = 144
            told 0 5 = 0
            count 2 = 1
            make 5 1 1 = 1
            would 5 = 0
            table 5 = 1
            count 2 = 2
            """);
        Runs.test("promise 32", "As run(): where it STOPS", """
            make 0 3 3 = 3
            link 1 0 = 1
            link 3 5 = 2
            would 0 = -21
            table 0 = 2 4 1
            closings = 1 0
            reasons = 1 3 105
            count 2 = 1
            count 4 = 0
            """);
        Runs.test("promise 32", "As run(): BAD: there is no RUN then: CLOSINGS and REASONS stay", """
            make 0 3 3 = 3
            link 3 5 = 1
            would 0 = -20
            ! would 5 = BAD
            ! would 6 = BAD
            ! would -1 = BAD
            closings = 0
            reasons = 0 3 105
            """);
    }

    private static void closingAndReason() {
        Runs.test("promise 33", "Number i of the CLOSINGS. NONE: there is none such", """
            ! closing 0 = NONE
            make 0 2 1 = 2
            link 0 0 = 1
            link 0 0 = 2
            run 0 = 2
            ! closing 0 = 1
            ! closing 1 = 0
            ! closing 2 = NONE
            ! closing -1 = NONE
            ! closing 7 = NONE
            ! closing 8 = NONE
            ! closing TOP = NONE
            ! closing LOW = NONE
            """);
        Runs.test("promise 33", "Number i of the CLOSINGS: of 8", """
            make 0 2 1 = 2
            link 0 0 = 1
            link 0 0 = 2
            link 0 0 = 3
            link 0 0 = 4
            link 0 0 = 5
            link 0 0 = 6
            link 0 0 = 7
            link 0 0 = 8
            run 0 = 2
            closing 0 = 7
            closing 7 = 0
            closing 8 = NONE
            """);
        Runs.test("promise 34", "Number i of the REASONS. NONE: there is none such", """
            ! reason 0 = NONE
            make 0 2 1 = 2
            link 0 0 = 1
            link 3 4 = 2
            run 0 = -21
            ! reason 0 = 1
            ! reason 1 = 3
            ! reason 2 = 104
            ! reason 3 = NONE
            ! reason -1 = NONE
            ! reason TOP = NONE
            ! reason LOW = NONE
            """);
    }

    private static void loosen() {
        Runs.test("promise 35", "THE CHAIN has no LINKS: how many it had: none, 1 and 8", """
            ! loosen = 0
            link 0 0 = 1
            loosen = 1
            count 1 = 0
            link 1 0 = 1
            link 0 0 = 2
            link 0 0 = 3
            link 0 0 = 4
            link 0 0 = 5
            link 0 0 = 6
            link 0 0 = 7
            link 0 0 = 8
            loosen = 8
            count 1 = 0
            ! loosen = 0
            link 4 0 = 1
            make 0 2 1 = 2
            run 0 = 2
            table 0 = 1 2
            """);
        Runs.test("promise 35", "SLOTS, THE LOG, CLOSINGS and REASONS stay", """
            make 0 2 1 = 2
            link 0 0 = 1
            link 3 4 = 2
            run 0 = -21
            loosen = 2
            closings = 1 0
            reasons = 1 3 104
            count 2 = 1
            table 0 = 3 3
            """);
    }

    private static void undo() {
        Runs.test("promise 36", "The latest of THE LOG is taken off it: which SLOT", """
            make 0 2 1 = 2
            make 5 3 1 = 3
            count 2 = 2
            undo = 5
            table 5 = nothing
            table 0 = 3 3
            count 2 = 1
            undo = 0
            table 0 = nothing
            count 2 = 0
            """);
        Runs.test("promise 36", "what it tells is undone: another n, an entry, a SLOT that held nothing, one taken off", """
            make 0 12 1 = 12
            make 0 1 0 = 1
            put 0 0 0 1 = 0
            clear 0 = 1
            undo = 0
            table 0 = 1
            undo = 0
            table 0 = 0
            undo = 0
            told 0 5 = 144
            undo = 0
            table 0 = nothing
            """);
        Runs.test("promise 36", "NONE: it is empty", """
            ! undo = NONE
            make 0 1 0 = 1
            undo = 0
            ! undo = NONE
            ! undo = NONE
            make 0 2 0 = 2
            undo = 0
            ! undo = NONE
            """);
        Runs.test("promise 36", "what is undone is no act of THE LOG; LINKS, SHEETS, CLOSINGS and REASONS stay", """
            make 0 2 1 = 2
            sheet 0 1 2 = 1
            spill 0 0 0 = 2
            link 6 0 = 1
            link 3 4 = 2
            run 0 = -21
            undo = 0
            count 2 = 0
            count 1 = 2
            row 0 0 = 3 3
            closings = 1 0
            reasons = 1 3 104
            """);
    }
}
