/** The edges of the terms on sheets and refusals, and of promises 37 to 41: a test for each sentence that names one. */
public final class SheetsEdgesTest {
    public static void main(String[] args) {
        sheets();
        refusals();
        sheet();
        sheetRefusals();
        cell();
        item();
        shift();
        shiftRefusals();
        count();
        countOthers();
        Runs.end();
    }

    private static void sheets() {
        Runs.test("term 2", "SHEETS 0 .. 3", """
            sheet 0 1 1 = 1
            sheet 1 1 2 = 1
            sheet 2 1 3 = 1
            sheet 3 1 4 = 1
            cell 0 0 5 = 1
            cell 3 3 6 = 1
            row 0 0 = 5
            row 1 0 = 0 0
            row 2 0 = 0 0 0
            row 3 0 = 0 0 0 6
            ! sheet 4 1 1 = BAD
            ! sheet -1 1 1 = BAD
            """);
        Runs.test("term 2", "SHEETS are rows of numbers, 40 at most", """
            sheet 0 1 40 = 1
            cell 0 39 7 = 1
            item 0 39 = 7
            item 0 40 = LEAST
            ! cell 0 40 7 = OUTSIDE
            ! sheet 0 1 41 = BAD
            item 0 39 = 7
            sheet 1 0 40 = 1
            cell 1 39 7 = 1
            item 1 39 = 7
            ! sheet 1 0 41 = BAD
            """);
        Runs.test("term 2", "of sort 0 (bytes)", """
            sheet 0 0 6 = 1
            cell 0 0 127 = 1
            cell 0 1 128 = 1
            cell 0 2 -128 = 1
            cell 0 3 -129 = 1
            cell 0 4 255 = 1
            cell 0 5 256 = 1
            row 0 0 = 127 -128 -128 127 -1 0
            """);
        Runs.test("term 2", "or 1 (ints)", """
            sheet 0 1 5 = 1
            cell 0 0 TOP = 1
            cell 0 1 LOW = 1
            cell 0 2 -1 = 1
            cell 0 3 128 = 1
            cell 0 4 256 = 1
            row 0 0 = 2147483647 -2147483648 -1 128 256
            """);
        Runs.test("term 2", "or missing (at first)", """
            count 3 = 0
            ! cell 0 0 1 = NOTHING
            ! cell 3 0 1 = NOTHING
            item 0 0 = LEAST
            item 3 0 = LEAST
            ! shift 0 0 1 0 0 = NOTHING
            sheet 0 1 0 = 1
            ! shift 0 0 1 0 0 = NOTHING
            ! shift 1 0 0 0 0 = NOTHING
            shift 0 0 0 0 0 = 0
            """);
    }

    private static void refusals() {
        Runs.test("term 2", "BAD, a SLOT that holds nothing, where a TABLE is asked for, too", """
            sheet 0 1 12 = 1
            make 0 2 2 = 2
            ! put 1 0 0 1 = BAD
            ! at 1 0 0 = BAD
            ! line 1 0 0 = BAD
            ! setRow 1 0 0 = BAD
            ! times 0 1 2 = BAD
            ! plus 1 0 2 = BAD
            ! power 1 0 2 = BAD
            ! derive 1 0 2 = BAD
            ! same 0 1 = BAD
            ! spill 1 0 0 = BAD
            ! reaches 0 1 = BAD
            ! bound 1 0 = BAD
            ! classes 1 = BAD
            ! space 1 0 = BAD
            ! basis 1 0 = BAD
            ! spans 1 0 = BAD
            ! alike 0 1 0 = BAD
            ! roots 1 2 = BAD
            ! root 1 2 0 = BAD
            ! link 2 1 = BAD
            ! run 1 = BAD
            ! would 1 = BAD
            """);
        Runs.test("term 2", "BAD, where only a SLOT is asked for, one that holds nothing will do", """
            make 0 2 2 = 2
            sheet 0 1 2 = 1
            make 1 2 2 = 2
            times 0 0 2 = 2
            plus 0 0 3 = 2
            power 0 1 4 = 2
            derive 0 0 5 = 2
            clear 1 = 2
            clear 2 = 2
            load 1 0 0 2 = 2
            root 0 3 2 = 9
            clear 3 = 2
            clear 3 = 0
            told 3 0 = 0
            link 3 3 = 1
            link 0 3 = 2
            """);
        Runs.test("term 2", "of several the one that is named first", """
            make 0 5 1 = 5
            make 1 3 1 = 3
            ! times 0 1 6 = BAD
            ! alike 0 1 2 = BAD
            ! roots 0 9 = BAD
            ! root 0 9 0 = BAD
            ! load 0 0 -1 13 = BAD
            ! load 0 0 -1 1 = NOTHING
            ! spill 0 0 -1 = NOTHING
            ! spill 2 0 0 = BAD
            ! sheet 0 2 -1 = BAD
            ! cell 4 -1 0 = BAD
            ! cell 0 -1 0 = NOTHING
            sheet 0 0 3 = 1
            ! shift 0 -1 1 0 0 = NOTHING
            sheet 1 1 3 = 1
            ! shift 0 -1 1 0 0 = SORT
            ! shift 0 -1 4 0 0 = BAD
            """);
        Runs.test("term 2", "A call that refuses changes nothing (but a RUN the CLOSINGS and REASONS)", """
            make 0 2 3 = 2
            link 1 0 = 1
            run 0 = 2
            closings = 0
            reasons = none
            link 3 5 = 2
            run 0 = -21
            closings = 1 0
            reasons = 1 3 105
            table 0 = 1 2
            count 1 = 2
            count 2 = 2
            ! run 5 = BAD
            closings = 1 0
            reasons = 1 3 105
            """);
        Runs.test("term 2", "what is only asked changes nothing, too", """
            give 0 2 5 0
            sheet 0 1 2 = 1
            ! at 0 0 1 = 1
            ! line 0 1 0 = 2
            ! same 0 0 = 1
            ! told 0 2 = 2
            ! reaches 0 0 = 1
            ! bound 0 0 = NONE
            ! classes 0 = 2
            ! classOf 0 2 = 1
            ! ofClass 0 0 7 = 2
            ! part 0 1 = 1
            ! parts 0 0 1 = 2
            ! rest 0 0 -1 = 1
            ! space 0 2 = 4
            ! basis 0 1 = 5
            ! spans 0 7 = 1
            ! alike 0 0 1 = 1
            ! roots 0 3 = 1
            ! closing 0 = NONE
            ! reason 0 = NONE
            ! item 0 1 = 0
            ! count 2 = 4
            """);
    }

    private static void sheet() {
        Runs.test("promise 37", "becomes a row of n numbers, all 0: what it held is gone", """
            sheet 0 1 3 = 1
            cell 0 0 5 = 1
            cell 0 2 6 = 1
            sheet 0 1 3 = 1
            row 0 0 = 0 0 0
            cell 0 2 6 = 1
            sheet 0 1 2 = 1
            row 0 0 = 0 0
            sheet 0 1 4 = 1
            row 0 0 = 0 0 0 0
            """);
        Runs.test("promise 37", "of n numbers: 0, 1 and 40", """
            sheet 0 1 0 = 1
            row 0 0 = none
            count 3 = 1
            ! cell 0 0 1 = OUTSIDE
            sheet 0 1 1 = 1
            row 0 0 = 0
            sheet 0 0 40 = 1
            item 0 0 = 0
            item 0 39 = 0
            item 0 40 = LEAST
            sheet 0 0 0 = 1
            row 0 0 = none
            """);
        Runs.test("promise 37", "of a sort: it may become another", """
            sheet 0 1 1 = 1
            cell 0 0 300 = 1
            row 0 0 = 300
            sheet 0 0 1 = 1
            cell 0 0 300 = 1
            row 0 0 = 44
            sheet 0 1 1 = 1
            cell 0 0 300 = 1
            row 0 0 = 300
            """);
        Runs.test("promise 37", "or missing (sort -1)", """
            sheet 3 1 2 = 1
            cell 3 1 5 = 1
            sheet 3 -1 0 = 1
            row 3 0 = missing
            count 3 = 0
            sheet 3 -1 0 = 1
            row 3 0 = missing
            sheet 3 1 2 = 1
            row 3 0 = 0 0
            """);
        Runs.test("promise 37", "(sort -1: n doesn't matter)", """
            sheet 0 1 2 = 1
            sheet 0 -1 41 = 1
            row 0 0 = missing
            sheet 0 1 2 = 1
            sheet 0 -1 -1 = 1
            row 0 0 = missing
            sheet 0 1 2 = 1
            sheet 0 -1 TOP = 1
            row 0 0 = missing
            sheet 0 1 2 = 1
            sheet 0 -1 LOW = 1
            row 0 0 = missing
            sheet 0 1 2 = 1
            sheet 0 -1 5 = 1
            row 0 0 = missing
            """);
    }

    private static void sheetRefusals() {
        Runs.test("promise 37", "BAD: sheet", """
            sheet 0 1 1 = 1
            sheet 3 1 1 = 1
            ! sheet 4 1 1 = BAD
            ! sheet -1 1 1 = BAD
            ! sheet 4 -1 0 = BAD
            ! sheet -1 -1 0 = BAD
            ! sheet TOP 1 1 = BAD
            ! sheet LOW 1 1 = BAD
            """);
        Runs.test("promise 37", "BAD: sort (-1 .. 1)", """
            sheet 0 1 2 = 1
            cell 0 1 9 = 1
            ! sheet 0 -2 2 = BAD
            ! sheet 0 2 2 = BAD
            ! sheet 0 TOP 2 = BAD
            ! sheet 0 LOW 2 = BAD
            row 0 0 = 0 9
            """);
        Runs.test("promise 37", "BAD: n above 40", """
            sheet 0 1 2 = 1
            cell 0 1 9 = 1
            ! sheet 0 1 41 = BAD
            ! sheet 0 0 41 = BAD
            ! sheet 0 1 TOP = BAD
            row 0 0 = 0 9
            """);
        Runs.test("promise 37", "SIZE: a size below 0", """
            sheet 0 1 2 = 1
            cell 0 1 9 = 1
            ! sheet 0 1 -1 = SIZE
            ! sheet 0 0 -1 = SIZE
            ! sheet 0 1 LOW = SIZE
            row 0 0 = 0 9
            ! sheet 1 1 -1 = SIZE
            row 1 0 = missing
            """);
        Runs.test("promise 37", "SIZE: BAD is named ahead", """
            ! sheet 4 1 -1 = BAD
            ! sheet -1 0 -1 = BAD
            ! sheet 0 2 -1 = BAD
            ! sheet 0 -2 -1 = BAD
            """);
    }

    private static void cell() {
        Runs.test("promise 38", "Number i of a SHEET becomes v: the first and the last, that one alone", """
            sheet 3 1 3 = 1
            cell 3 0 4 = 1
            row 3 0 = 4 0 0
            cell 3 2 -5 = 1
            row 3 0 = 4 0 -5
            cell 3 2 0 = 1
            row 3 0 = 4 0 0
            count 2 = 0
            """);
        Runs.test("promise 38", "(in bytes its lowest 8 bits)", """
            sheet 0 0 5 = 1
            cell 0 0 TOP = 1
            cell 0 1 LOW = 1
            cell 0 2 1000 = 1
            cell 0 3 -1 = 1
            cell 0 4 384 = 1
            row 0 0 = -1 0 -24 -1 -128
            """);
        Runs.test("promise 38", "BAD: sheet: ahead of NOTHING and OUTSIDE", """
            sheet 0 1 1 = 1
            cell 0 0 1 = 1
            ! cell 4 0 1 = BAD
            ! cell -1 0 1 = BAD
            ! cell 4 1 1 = BAD
            ! cell LOW 0 1 = BAD
            ! cell TOP -1 1 = BAD
            """);
        Runs.test("promise 38", "NOTHING: ahead of OUTSIDE", """
            ! cell 0 0 1 = NOTHING
            ! cell 0 -1 1 = NOTHING
            ! cell 3 40 1 = NOTHING
            sheet 0 1 1 = 1
            cell 0 0 1 = 1
            sheet 0 -1 1 = 1
            ! cell 0 0 1 = NOTHING
            """);
        Runs.test("promise 38", "OUTSIDE", """
            sheet 0 1 3 = 1
            ! cell 0 -1 1 = OUTSIDE
            ! cell 0 3 1 = OUTSIDE
            ! cell 0 LOW 1 = OUTSIDE
            ! cell 0 TOP 1 = OUTSIDE
            row 0 0 = 0 0 0
            sheet 0 0 0 = 1
            ! cell 0 0 1 = OUTSIDE
            """);
    }

    private static void item() {
        Runs.test("promise 39", "Number i of a SHEET: the first and the last, the least and the greatest", """
            sheet 3 1 3 = 1
            cell 3 0 LOW = 1
            cell 3 2 TOP = 1
            ! item 3 0 = LOW
            ! item 3 1 = 0
            ! item 3 2 = TOP
            sheet 0 0 2 = 1
            cell 0 0 128 = 1
            cell 0 1 127 = 1
            ! item 0 0 = -128
            ! item 0 1 = 127
            """);
        Runs.test("promise 39", "-9223372036854775808: sheet", """
            sheet 0 1 1 = 1
            sheet 3 1 1 = 1
            item 3 0 = 0
            ! item 4 0 = LEAST
            ! item -1 0 = LEAST
            ! item LOW 0 = LEAST
            ! item TOP 0 = LEAST
            """);
        Runs.test("promise 39", "-9223372036854775808: it is missing", """
            ! item 0 0 = LEAST
            sheet 0 1 1 = 1
            ! item 0 0 = 0
            sheet 0 -1 1 = 1
            ! item 0 0 = LEAST
            ! item 0 -1 = LEAST
            """);
        Runs.test("promise 39", "-9223372036854775808: there is none such", """
            sheet 0 1 40 = 1
            item 0 39 = 0
            ! item 0 40 = LEAST
            sheet 0 1 3 = 1
            item 0 2 = 0
            ! item 0 3 = LEAST
            ! item 0 -1 = LEAST
            ! item 0 LOW = LEAST
            ! item 0 TOP = LEAST
            sheet 0 1 0 = 1
            ! item 0 0 = LEAST
            """);
    }

    private static void shift() {
        String five = """
            sheet 0 1 5 = 1
            cell 0 0 1 = 1
            cell 0 1 2 = 1
            cell 0 2 3 = 1
            cell 0 3 4 = 1
            cell 0 4 5 = 1
            """;
        Runs.test("promise 40", "n numbers come to another one: n; what is around them stays", five + """
            sheet 3 1 4 = 1
            cell 3 0 9 = 1
            cell 3 3 8 = 1
            shift 0 2 3 1 2 = 2
            row 3 0 = 9 3 4 8
            row 0 0 = 1 2 3 4 5
            shift 3 3 0 0 1 = 1
            row 0 0 = 8 2 3 4 5
            """);
        Runs.test("promise 40", "(or the same), as they all were: upward", five + """
            shift 0 0 0 1 4 = 4
            row 0 0 = 1 1 2 3 4
            """);
        Runs.test("promise 40", "(or the same), as they all were: downward", five + """
            shift 0 1 0 0 4 = 4
            row 0 0 = 2 3 4 5 5
            """);
        Runs.test("promise 40", "(or the same): to where they stand", five + """
            shift 0 0 0 0 5 = 5
            row 0 0 = 1 2 3 4 5
            """);
        Runs.test("promise 40", "n numbers: none of them, at the start and at the end", five + """
            sheet 1 1 2 = 1
            ! shift 0 0 1 0 0 = 0
            ! shift 0 5 1 2 0 = 0
            ! shift 0 5 1 0 0 = 0
            ! shift 0 5 0 5 0 = 0
            sheet 2 1 0 = 1
            ! shift 2 0 0 5 0 = 0
            ! shift 0 5 2 0 0 = 0
            """);
        Runs.test("promise 40", "n numbers: all of 40", """
            sheet 0 0 40 = 1
            cell 0 0 200 = 1
            cell 0 39 7 = 1
            sheet 1 0 40 = 1
            shift 0 0 1 0 40 = 40
            item 1 0 = -56
            item 1 1 = 0
            item 1 39 = 7
            """);
    }

    private static void shiftRefusals() {
        Runs.test("promise 40", "BAD: sheets: ahead of NOTHING", """
            sheet 0 1 2 = 1
            sheet 3 1 2 = 1
            shift 0 0 3 0 2 = 2
            shift 3 0 0 0 2 = 2
            ! shift 4 0 0 0 1 = BAD
            ! shift -1 0 0 0 1 = BAD
            ! shift 0 0 4 0 1 = BAD
            ! shift 0 0 -1 0 1 = BAD
            ! shift 1 0 4 0 1 = BAD
            ! shift -1 0 1 0 1 = BAD
            ! shift 0 9 TOP 9 -1 = BAD
            ! shift LOW 9 0 9 -1 = BAD
            """);
        Runs.test("promise 40", "NOTHING: one is missing: ahead of SORT and OUTSIDE", """
            sheet 0 0 2 = 1
            ! shift 0 0 1 0 1 = NOTHING
            ! shift 1 0 0 0 1 = NOTHING
            ! shift 1 0 2 0 1 = NOTHING
            ! shift 1 0 1 0 0 = NOTHING
            ! shift 0 0 1 0 -1 = NOTHING
            ! shift 1 9 0 9 9 = NOTHING
            sheet 1 0 2 = 1
            shift 0 0 1 0 1 = 1
            sheet 1 -1 2 = 1
            ! shift 0 0 1 0 1 = NOTHING
            """);
        Runs.test("promise 40", "SORT: SHEETS of unlike sorts: ahead of OUTSIDE", """
            sheet 0 0 2 = 1
            sheet 1 1 2 = 1
            ! shift 0 0 1 0 1 = SORT
            ! shift 1 0 0 0 1 = SORT
            ! shift 0 0 1 0 0 = SORT
            ! shift 0 0 1 0 -1 = SORT
            ! shift 0 3 1 0 1 = SORT
            ! shift 0 0 1 3 1 = SORT
            sheet 1 0 2 = 1
            shift 0 0 1 0 1 = 1
            """);
        Runs.test("promise 40", "OUTSIDE: n, i, j below 0", """
            sheet 0 1 4 = 1
            sheet 1 1 4 = 1
            ! shift 0 0 1 0 -1 = OUTSIDE
            ! shift 0 -1 1 0 1 = OUTSIDE
            ! shift 0 0 1 -1 1 = OUTSIDE
            ! shift 0 -1 1 0 0 = OUTSIDE
            ! shift 0 0 1 -1 0 = OUTSIDE
            ! shift 0 4 1 4 -1 = OUTSIDE
            ! shift 0 LOW 1 0 1 = OUTSIDE
            ! shift 0 0 1 LOW 1 = OUTSIDE
            ! shift 0 0 1 0 LOW = OUTSIDE
            """);
        Runs.test("promise 40", "OUTSIDE: or beyond either's end", """
            sheet 0 1 4 = 1
            cell 0 3 9 = 1
            sheet 1 1 3 = 1
            shift 0 1 1 0 3 = 3
            ! shift 0 2 1 0 3 = OUTSIDE
            ! shift 0 0 1 0 4 = OUTSIDE
            ! shift 0 0 1 1 3 = OUTSIDE
            shift 0 0 1 1 2 = 2
            ! shift 1 0 0 0 4 = OUTSIDE
            ! shift 1 1 0 0 3 = OUTSIDE
            ! shift 0 4 1 0 1 = OUTSIDE
            ! shift 0 0 1 3 1 = OUTSIDE
            ! shift 0 5 1 0 0 = OUTSIDE
            ! shift 0 0 1 4 0 = OUTSIDE
            row 1 0 = 0 0 0
            """);
        Runs.test("promise 40", "OUTSIDE: where a sum of two would wrap around", """
            sheet 0 1 4 = 1
            sheet 1 1 4 = 1
            ! shift 0 TOP 1 0 1 = OUTSIDE
            ! shift 0 0 1 TOP 1 = OUTSIDE
            ! shift 0 1 1 0 TOP = OUTSIDE
            ! shift 0 TOP 1 TOP TOP = OUTSIDE
            ! shift 0 TOP 0 0 2 = OUTSIDE
            ! shift 0 LOW 1 LOW LOW = OUTSIDE
            """);
    }

    private static void count() {
        Runs.test("promise 41", "What 0 SLOTS that hold a TABLE: none and all", """
            ! count 0 = 0
            make 0 1 0 = 1
            ! count 0 = 1
            make 1 1 0 = 1
            make 2 1 0 = 1
            make 3 1 0 = 1
            make 4 1 0 = 1
            ! count 0 = 5
            make 5 12 0 = 12
            ! count 0 = 6
            make 5 1 0 = 1
            ! count 0 = 6
            clear 0 = 1
            ! count 0 = 5
            undo = 0
            ! count 0 = 6
            """);
        Runs.test("promise 41", "1 LINKS: none and 8", """
            ! count 1 = 0
            link 0 0 = 1
            ! count 1 = 1
            link 0 0 = 2
            link 0 0 = 3
            link 0 0 = 4
            link 0 0 = 5
            link 0 0 = 6
            link 0 0 = 7
            link 0 0 = 8
            ! count 1 = 8
            ! link 0 0 = FULL
            ! count 1 = 8
            loosen = 8
            ! count 1 = 0
            """);
        Runs.test("promise 41", "2 how many are in THE LOG: none and 20", """
            ! count 2 = 0
            make 0 1 0 = 1
            ! count 2 = 1
            18 * make 0 1 0 = 1
            ! count 2 = 19
            make 0 1 0 = 1
            ! count 2 = 20
            make 0 1 0 = 1
            ! count 2 = 20
            undo = 0
            ! count 2 = 19
            """);
    }

    private static void countOthers() {
        Runs.test("promise 41", "3 SHEETS that aren't missing: none and all", """
            ! count 3 = 0
            sheet 0 0 0 = 1
            ! count 3 = 1
            sheet 1 1 0 = 1
            sheet 2 0 40 = 1
            ! count 3 = 3
            sheet 3 1 40 = 1
            ! count 3 = 4
            sheet 3 0 1 = 1
            ! count 3 = 4
            sheet 0 -1 0 = 1
            ! count 3 = 3
            sheet 0 -1 0 = 1
            ! count 3 = 3
            """);
        Runs.test("promise 41", "4 LINKS that are BORROWED now: none behind any RUN", """
            ! count 4 = 0
            make 0 2 1 = 2
            link 0 0 = 1
            ! count 4 = 0
            run 0 = 2
            ! count 4 = 0
            link 3 5 = 2
            run 0 = -21
            ! count 4 = 0
            would 0 = -21
            ! count 4 = 0
            """);
        Runs.test("promise 41", "BAD", """
            count 0 = 0
            count 4 = 0
            ! count -1 = BAD
            ! count 5 = BAD
            ! count TOP = BAD
            ! count LOW = BAD
            """);
    }
}
