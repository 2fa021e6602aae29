/** The edges of the terms on spaces and roots, and of promises 24 to 29: a test for each sentence that names one. */
public final class SpacesEdgesTest {
    public static void main(String[] args) {
        spaces();
        regular();
        space();
        basis();
        spans();
        alike();
        degrees();
        roots();
        root();
        Runs.end();
    }

    private static void spaces() {
        Runs.test("term 1", "SPACE: all unions of its rows, the empty one, too", """
            make 0 1 0 = 1
            space 0 0 = 1
            spans 0 0 = 1
            make 0 1 1 = 1
            space 0 0 = 2
            spans 0 0 = 1
            make 0 12 0 = 12
            space 0 0 = 1
            make 0 12 1 = 12
            space 0 0 = 2
            make 0 12 2 = 12
            space 0 0 = 4096
            """);
        Runs.test("term 1", "SPACE: an empty row adds nothing, nor do rows told twice or unions of others", """
            give 0 1 0 0
            space 0 0 = 2
            give 0 1 1 1
            space 0 0 = 2
            give 0 1 2 3
            space 0 0 = 4
            give 0 1 2 7
            space 0 0 = 5
            """);
        Runs.test("term 1", "BASIS: those rows, each once", """
            give 0 3 3
            space 0 1 = 1
            basis 0 0 = 3
            basis 0 1 = NONE
            make 0 12 1 = 12
            space 0 1 = 1
            basis 0 0 = 4095
            """);
        Runs.test("term 1", "BASIS: that aren't empty", """
            make 0 12 0 = 12
            space 0 1 = 0
            ! basis 0 0 = NONE
            give 0 0 2 0
            space 0 1 = 1
            basis 0 0 = 2
            make 0 1 0 = 1
            space 0 1 = 0
            make 0 1 1 = 1
            space 0 1 = 1
            """);
        Runs.test("term 1", "BASIS: and aren't the union of all rows that lie in them and are unlike them", """
            give 0 1 2 3
            space 0 1 = 2
            basis 0 1 = 2
            give 0 1 3 3
            space 0 1 = 2
            basis 0 0 = 1
            basis 0 1 = 3
            give 0 1 6 7
            space 0 1 = 2
            basis 0 1 = 6
            give 0 1 2 7
            space 0 1 = 3
            basis 0 2 = 7
            """);
        Runs.test("term 1", "BASIS: told from the least number up", """
            give 0 8 1 4 2
            basis 0 0 = 1
            basis 0 1 = 2
            basis 0 2 = 4
            basis 0 3 = 8
            """);
    }

    private static void regular() {
        Runs.test("term 1", "REGULAR: empty and full ones, UNIT and rings", """
            make 0 1 0 = 1
            space 0 4 = 1
            make 0 1 1 = 1
            space 0 4 = 1
            make 0 12 0 = 12
            space 0 4 = 1
            make 0 12 1 = 12
            space 0 4 = 1
            make 0 12 2 = 12
            space 0 4 = 1
            make 0 12 3 = 12
            space 0 4 = 1
            """);
        Runs.test("term 1", "REGULAR: all of n 2 are", """
            give 0 1 0
            space 0 4 = 1
            give 0 2 0
            space 0 4 = 1
            give 0 3 0
            space 0 4 = 1
            give 0 0 1
            space 0 4 = 1
            give 0 3 1
            space 0 4 = 1
            give 0 0 2
            space 0 4 = 1
            give 0 2 3
            space 0 4 = 1
            give 0 1 3
            space 0 4 = 1
            give 0 3 2
            space 0 4 = 1
            """);
        Runs.test("term 1", "REGULAR: the first that aren't are of n 3", """
            give 0 6 5 3
            space 0 4 = 0
            give 0 3 5 6
            space 0 4 = 0
            give 0 6 5 1
            space 0 4 = 0
            give 0 6 5 4
            space 0 4 = 1
            make 0 12 0 = 12
            setRow 0 9 3584 = 0
            setRow 0 10 2560 = 0
            space 0 4 = 1
            setRow 0 9 3072 = 3584
            setRow 0 11 1536 = 0
            space 0 4 = 0
            """);
        Runs.test("term 1", "REGULAR: it times GREATEST X times it is it", """
            give 0 3 6 0
            space 0 4 = 1
            derive 0 4 1 = 3
            times 0 1 2 = 3
            times 2 0 2 = 3
            same 2 0 = 1
            give 0 6 5 3
            derive 0 4 1 = 3
            times 0 1 2 = 3
            times 2 0 2 = 3
            same 2 0 = 0
            """);
    }

    private static void space() {
        Runs.test("promise 24", "what 0 how many unions, 1 how many are in the BASIS, 2, 3 the same two of its TRANSPOSE", """
            give 0 7 10 12 0
            ! space 0 0 = 6
            ! space 0 1 = 3
            ! space 0 2 = 6
            ! space 0 3 = 4
            derive 0 1 1 = 4
            ! space 1 0 = 6
            ! space 1 1 = 4
            ! space 1 2 = 6
            ! space 1 3 = 3
            """);
        Runs.test("promise 24", "Of the SPACE of a SLOT: also where another one was changed last", """
            give 0 7 10 12 0
            make 5 5 2 = 5
            space 0 0 = 6
            space 0 1 = 3
            space 0 2 = 6
            space 0 3 = 4
            make 5 5 2 = 5
            space 0 1 = 3
            make 5 3 2 = 3
            give 4 6 5 3
            space 5 4 = 1
            make 3 2 0 = 2
            space 4 4 = 0
            """);
        Runs.test("promise 24", "BAD: no such what", """
            make 0 2 2 = 2
            space 0 0 = 4
            space 0 4 = 1
            ! space 0 -1 = BAD
            ! space 0 5 = BAD
            ! space 0 TOP = BAD
            ! space 0 LOW = BAD
            """);
        Runs.test("promise 24", "BAD: no such slot, or it holds nothing", """
            make 5 2 2 = 2
            space 5 0 = 4
            ! space 6 0 = BAD
            ! space -1 0 = BAD
            ! space 0 0 = BAD
            ! space 0 4 = BAD
            """);
    }

    private static void basis() {
        Runs.test("promise 25", "Number i of the BASIS. NONE: there is none such", """
            make 0 12 2 = 12
            ! basis 0 0 = 1
            ! basis 0 11 = 2048
            ! basis 0 12 = NONE
            ! basis 0 -1 = NONE
            ! basis 0 TOP = NONE
            ! basis 0 LOW = NONE
            give 0 3 6 7
            ! basis 0 1 = 6
            ! basis 0 2 = NONE
            """);
        Runs.test("promise 25", "BAD: slot: ahead of NONE", """
            make 5 2 2 = 2
            basis 5 0 = 1
            ! basis 5 2 = NONE
            ! basis 6 0 = BAD
            ! basis -1 0 = BAD
            ! basis 0 0 = BAD
            ! basis 0 -1 = BAD
            ! basis 6 12 = BAD
            """);
    }

    private static void spans() {
        Runs.test("promise 26", "1 if a set is in the SPACE of a SLOT, else 0: empty, full, a part of a row, one more", """
            give 0 3 12 0 0
            ! spans 0 0 = 1
            ! spans 0 15 = 1
            ! spans 0 3 = 1
            ! spans 0 12 = 1
            ! spans 0 1 = 0
            ! spans 0 7 = 0
            ! spans 0 14 = 0
            make 0 12 0 = 12
            spans 0 0 = 1
            spans 0 4095 = 0
            spans 0 1 = 0
            """);
        Runs.test("promise 26", "BAD: also a bit that is no column", """
            make 0 3 2 = 3
            spans 0 7 = 1
            ! spans 0 8 = BAD
            ! spans 0 15 = BAD
            ! spans 0 -1 = BAD
            ! spans 0 LOW = BAD
            make 0 12 2 = 12
            spans 0 4095 = 1
            ! spans 0 4096 = BAD
            make 0 1 1 = 1
            spans 0 1 = 1
            ! spans 0 2 = BAD
            """);
        Runs.test("promise 26", "BAD: no such slot, or it holds nothing", """
            make 5 3 2 = 3
            spans 5 0 = 1
            ! spans 6 0 = BAD
            ! spans -1 0 = BAD
            ! spans 0 0 = BAD
            """);
    }

    private static void alike() {
        Runs.test("promise 27", "1 if two SLOTS have the same SPACE (what 0), else 0", """
            give 0 1 2 0
            give 1 3 2 1
            ! alike 0 1 0 = 1
            ! alike 1 0 0 = 1
            ! alike 0 0 0 = 1
            give 1 1 0 0
            ! alike 0 1 0 = 0
            ! alike 1 0 0 = 0
            give 1 1 2 4
            ! alike 0 1 0 = 0
            ! alike 1 0 0 = 0
            """);
        Runs.test("promise 27", "their TRANSPOSES have (1)", """
            give 0 1 2 0
            give 1 2 1 0
            give 2 1 2 2
            ! alike 0 1 1 = 1
            ! alike 0 2 0 = 1
            ! alike 0 2 1 = 0
            ! alike 2 0 1 = 0
            """);
        Runs.test("promise 27", "of empty ones, and of n 1", """
            make 0 1 0 = 1
            make 1 1 1 = 1
            alike 0 1 0 = 0
            alike 1 0 1 = 0
            alike 0 0 1 = 1
            make 0 12 0 = 12
            make 1 12 0 = 12
            alike 0 1 0 = 1
            put 1 11 11 1 = 0
            alike 0 1 0 = 0
            alike 1 0 0 = 0
            alike 0 1 1 = 0
            """);
        Runs.test("promise 27", "BAD: no such what", """
            make 0 2 1 = 2
            alike 0 0 0 = 1
            alike 0 0 1 = 1
            ! alike 0 0 -1 = BAD
            ! alike 0 0 2 = BAD
            """);
        Runs.test("promise 27", "BAD: no such slot, or it holds nothing", """
            make 0 2 1 = 2
            make 5 2 1 = 2
            alike 5 0 0 = 1
            ! alike 6 0 0 = BAD
            ! alike -1 0 0 = BAD
            ! alike 0 6 0 = BAD
            ! alike 0 -1 0 = BAD
            ! alike 1 0 0 = BAD
            ! alike 0 1 0 = BAD
            ! alike 1 1 0 = BAD
            """);
        Runs.test("promise 27", "UNLIKE: BAD is named ahead", """
            make 0 2 1 = 2
            make 1 3 1 = 3
            ! alike 0 1 0 = UNLIKE
            ! alike 1 0 1 = UNLIKE
            ! alike 0 1 2 = BAD
            ! alike 0 1 -1 = BAD
            ! alike 0 2 0 = BAD
            """);
    }

    private static void degrees() {
        Runs.test("term 1", "ROOT of a degree d (2 .. 8)", """
            make 0 4 2 = 4
            ! roots 0 1 = BAD
            ! roots 0 2 = 10
            ! roots 0 3 = 9
            ! roots 0 4 = 16
            ! roots 0 5 = 1
            ! roots 0 6 = 18
            ! roots 0 7 = 1
            ! roots 0 8 = 16
            ! roots 0 9 = BAD
            ! roots 0 0 = BAD
            ! roots 0 -2 = BAD
            """);
        Runs.test("term 1", "ROOT of a degree d: each degree is another one", """
            make 0 3 1 = 3
            roots 0 2 = 73
            roots 0 3 = 115
            roots 0 4 = 133
            roots 0 5 = 139
            roots 0 8 = 139
            make 0 4 1 = 4
            roots 0 2 = 6003
            roots 0 3 = 19599
            roots 0 4 = 24027
            roots 0 5 = 25215
            roots 0 6 = 25527
            roots 0 7 = 25527
            roots 0 8 = 25527
            """);
        Runs.test("term 1", "of a TABLE of n up to 4", """
            make 0 1 2 = 1
            ! roots 0 2 = 1
            make 0 2 2 = 2
            ! roots 0 2 = 2
            make 0 3 2 = 3
            ! roots 0 2 = 4
            make 0 4 2 = 4
            ! roots 0 2 = 10
            make 0 5 2 = 5
            ! roots 0 2 = LARGE
            make 0 12 2 = 12
            ! roots 0 8 = LARGE
            """);
        Runs.test("term 1", "one of the same n whose POWER d it is", """
            make 0 4 3 = 4
            root 0 7 1 = 16920
            power 1 7 2 = 4
            same 2 0 = 1
            root 0 5 1 = 6210
            same 1 0 = 1
            make 0 2 1 = 2
            root 0 8 1 = 7
            power 1 8 2 = 2
            same 2 0 = 1
            """);
        Runs.test("term 1", "the least: that with the least number, its entry at i, j being bit n i + j", """
            make 0 1 0 = 1
            root 0 2 1 = 0
            table 1 = 0
            make 0 1 1 = 1
            root 0 8 1 = 1
            table 1 = 1
            make 0 2 2 = 2
            root 0 2 1 = 6
            table 1 = 2 1
            root 0 3 1 = 9
            table 1 = 1 2
            make 0 3 2 = 3
            root 0 2 1 = 84
            table 1 = 4 2 1
            make 0 4 2 = 4
            root 0 5 1 = 33825
            table 1 = 1 2 4 8
            root 0 2 1 = 4680
            table 1 = 8 4 2 1
            """);
    }

    private static void roots() {
        Runs.test("promise 28", "How many ROOTS of degree d: none, one, of empty and of full ones", """
            make 0 4 3 = 4
            ! roots 0 2 = 0
            ! roots 0 8 = 0
            ! roots 0 3 = 1
            make 0 1 0 = 1
            ! roots 0 2 = 1
            make 0 1 1 = 1
            ! roots 0 8 = 1
            make 0 2 0 = 2
            ! roots 0 2 = 3
            ! roots 0 8 = 3
            make 0 2 1 = 2
            ! roots 0 2 = 3
            ! roots 0 8 = 3
            """);
        Runs.test("promise 28", "BAD: no such slot, or it holds nothing", """
            make 5 2 2 = 2
            roots 5 2 = 2
            ! roots 6 2 = BAD
            ! roots -1 2 = BAD
            ! roots 0 2 = BAD
            """);
        Runs.test("promise 28", "LARGE: n is above 4; BAD is named ahead", """
            make 0 5 0 = 5
            ! roots 0 2 = LARGE
            ! roots 0 8 = LARGE
            ! roots 0 1 = BAD
            ! roots 0 9 = BAD
            ! roots 1 2 = BAD
            """);
    }

    private static void root() {
        Runs.test("promise 29", "SLOT to holds the least ROOT of degree d of a SLOT: its number; to may be that SLOT", """
            make 0 2 2 = 2
            make 5 12 1 = 12
            root 0 2 5 = 6
            table 5 = 2 1
            root 0 2 0 = 6
            table 0 = 2 1
            count 2 = 4
            undo = 0
            table 0 = 1 2
            """);
        Runs.test("promise 29", "its number: 0 of an empty one", """
            make 0 4 0 = 4
            root 0 2 1 = 0
            table 1 = 0 0 0 0
            root 0 8 0 = 0
            count 2 = 3
            """);
        Runs.test("promise 29", "BAD: slot, d", """
            make 5 2 2 = 2
            root 5 2 0 = 6
            ! root 6 2 0 = BAD
            ! root -1 2 0 = BAD
            ! root 1 2 0 = BAD
            ! root 5 1 0 = BAD
            root 5 8 0 = 6
            ! root 5 9 0 = BAD
            """);
        Runs.test("promise 29", "BAD: no such slot to", """
            make 0 2 2 = 2
            root 0 2 5 = 6
            ! root 0 2 6 = BAD
            ! root 0 2 -1 = BAD
            """);
        Runs.test("promise 29", "LARGE: BAD is named ahead, NONE behind", """
            make 0 4 2 = 4
            root 0 2 1 = 4680
            make 0 5 2 = 5
            ! root 0 2 1 = LARGE
            ! root 0 1 1 = BAD
            ! root 0 9 1 = BAD
            ! root 0 2 6 = BAD
            ! root 0 2 -1 = BAD
            make 0 6 3 = 6
            ! root 0 2 1 = LARGE
            """);
        Runs.test("promise 29", "NONE: BAD is named ahead", """
            make 0 4 3 = 4
            make 1 3 1 = 3
            ! root 0 2 1 = NONE
            ! root 0 8 0 = NONE
            ! root 0 2 4 = NONE
            ! root 0 2 6 = BAD
            table 1 = 7 7 7
            make 0 2 3 = 2
            ! root 0 2 1 = NONE
            root 0 3 1 = 6
            """);
    }
}
