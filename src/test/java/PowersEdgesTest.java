/** The edges of the terms on powers and classes, and of promises 15 to 23: a test for each sentence that names one. */
public final class PowersEdgesTest {
    public static void main(String[] args) {
        cycles();
        exponents();
        told();
        reaches();
        bounds();
        boundRefusals();
        classes();
        classOf();
        girths();
        levels();
        ofClass();
        part();
        parts();
        rest();
        Runs.end();
    }

    private static void cycles() {
        Runs.test("term 1", "INDEX: the least k of 1, 2, .. such that POWER k is a later one, too: never 0", """
            make 0 1 0 = 1
            told 0 1 = 1
            make 0 1 1 = 1
            told 0 1 = 1
            make 0 12 2 = 12
            told 0 1 = 1
            make 0 12 3 = 12
            told 0 1 = 1
            make 0 12 0 = 12
            told 0 1 = 1
            """);
        Runs.test("term 1", "INDEX: ways that end, and a way of m into a ring", """
            give 0 2 0
            told 0 1 = 2
            give 0 2 4 8 16 32 64 128 256 512 1024 2048 0
            told 0 1 = 12
            told 0 2 = 1
            told 0 3 = 12
            give 0 2 4 8 16 4
            told 0 1 = 2
            give 0 2 4 8 16 32 64 128 256 512 1024 2048 1024
            told 0 1 = 10
            told 0 2 = 2
            told 0 3 = 10
            """);
        Runs.test("term 1", "INDEX: the greatest of n 12", """
            make 0 12 4 = 12
            told 0 1 = 122
            told 0 2 = 1
            told 0 3 = 122
            """);
        Runs.test("term 1", "PERIOD: the least p of 1, 2, .. such that POWER INDEX + p is POWER INDEX", """
            make 0 1 1 = 1
            told 0 2 = 1
            make 0 1 0 = 1
            told 0 2 = 1
            make 0 2 3 = 2
            told 0 2 = 2
            make 0 12 3 = 12
            told 0 2 = 12
            make 0 12 2 = 12
            told 0 2 = 1
            """);
        Runs.test("term 1", "PERIOD: the greatest of n 12, by rings of 3, 4 and 5", """
            give 0 2 4 1 16 32 64 8 256 512 1024 2048 128
            told 0 1 = 1
            told 0 2 = 60
            told 0 3 = 60
            """);
        Runs.test("term 1", "PERIOD: where powers stay apart for long: rings of 5 and 7", """
            give 0 2 4 8 16 1 64 128 256 512 1024 2048 32
            told 0 1 = 1
            told 0 2 = 35
            told 0 3 = 35
            """);
        Runs.test("term 1", "IDEMPOTENT POWER: the least k of 1, 2, .. such that POWER 2 k is POWER k", """
            make 0 1 0 = 1
            told 0 3 = 1
            make 0 1 1 = 1
            told 0 3 = 1
            make 0 3 2 = 3
            told 0 3 = 1
            make 0 2 3 = 2
            told 0 3 = 2
            """);
        Runs.test("term 1", "IDEMPOTENT POWER: INDEX less than, as great as, and greater than PERIOD", """
            give 0 2 4 8 16 4
            told 0 1 = 2
            told 0 2 = 3
            told 0 3 = 3
            give 0 2 4 8 16 32 8
            told 0 1 = 3
            told 0 2 = 3
            told 0 3 = 3
            give 0 2 4 8 16 32 64 16
            told 0 1 = 4
            told 0 2 = 3
            told 0 3 = 6
            give 0 2 4 8 16 32 64 128 256 64
            told 0 1 = 6
            told 0 2 = 3
            told 0 3 = 6
            """);
    }

    private static void exponents() {
        Runs.test("term 1", "EXPONENT: the least k of 1, 2, .. such that POWER k has 1 everywhere: 1", """
            make 0 1 1 = 1
            told 0 4 = 1
            make 0 2 1 = 2
            told 0 4 = 1
            make 0 12 1 = 12
            told 0 4 = 1
            put 0 11 11 0 = 1
            told 0 4 = 2
            """);
        Runs.test("term 1", "EXPONENT: the greatest of each n", """
            make 0 2 4 = 2
            told 0 4 = 2
            make 0 3 4 = 3
            told 0 4 = 5
            make 0 4 4 = 4
            told 0 4 = 10
            make 0 5 4 = 5
            told 0 4 = 17
            make 0 6 4 = 6
            told 0 4 = 26
            make 0 7 4 = 7
            told 0 4 = 37
            make 0 8 4 = 8
            told 0 4 = 50
            make 0 9 4 = 9
            told 0 4 = 65
            make 0 10 4 = 10
            told 0 4 = 82
            make 0 11 4 = 11
            told 0 4 = 101
            make 0 12 4 = 12
            told 0 4 = 122
            """);
        Runs.test("term 1", "EXPONENT: power 121 lacks one 1, power 122 none", """
            make 0 12 4 = 12
            power 0 121 1 = 12
            told 1 5 = 143
            power 0 122 1 = 12
            told 1 5 = 144
            """);
        Runs.test("promise 15", "4 EXPONENT (0: it isn't PRIMITIVE)", """
            make 0 1 0 = 1
            told 0 4 = 0
            make 0 2 2 = 2
            told 0 4 = 0
            make 0 2 3 = 2
            told 0 4 = 0
            give 0 3 0
            told 0 4 = 0
            give 0 2 2
            told 0 4 = 0
            make 0 12 3 = 12
            told 0 4 = 0
            """);
    }

    private static void told() {
        Runs.test("promise 15", "what 0 n (0: it holds nothing)", """
            ! told 0 0 = 0
            make 0 1 0 = 1
            make 5 12 0 = 12
            ! told 0 0 = 1
            ! told 5 0 = 12
            clear 5 = 12
            ! told 5 0 = 0
            """);
        Runs.test("promise 15", "5 how many 1 it has: none and all", """
            make 0 12 0 = 12
            told 0 5 = 0
            make 0 12 1 = 12
            told 0 5 = 144
            make 0 1 1 = 1
            told 0 5 = 1
            make 0 12 0 = 12
            put 0 0 0 1 = 0
            put 0 11 11 1 = 0
            told 0 5 = 2
            """);
        Runs.test("promise 15", "6 1 if it is its own PRODUCT with itself, else 0", """
            make 0 1 0 = 1
            told 0 6 = 1
            make 0 1 1 = 1
            told 0 6 = 1
            make 0 12 2 = 12
            told 0 6 = 1
            make 0 12 1 = 12
            told 0 6 = 1
            put 0 11 11 0 = 1
            told 0 6 = 0
            make 0 2 3 = 2
            told 0 6 = 0
            """);
        Runs.test("promise 15", "7 1 if it is its TRANSPOSE, else 0", """
            make 0 1 0 = 1
            told 0 7 = 1
            make 0 2 3 = 2
            told 0 7 = 1
            make 0 3 3 = 3
            told 0 7 = 0
            make 0 12 0 = 12
            put 0 0 11 1 = 0
            told 0 7 = 0
            put 0 11 0 1 = 0
            told 0 7 = 1
            put 0 10 11 1 = 0
            told 0 7 = 0
            """);
        Runs.test("promise 15", "BAD: no such slot", """
            make 0 2 1 = 2
            make 5 2 1 = 2
            told 0 1 = 1
            told 5 1 = 1
            ! told 6 0 = BAD
            ! told -1 0 = BAD
            ! told 6 1 = BAD
            ! told -1 7 = BAD
            """);
        Runs.test("promise 15", "BAD: no such what", """
            make 0 2 1 = 2
            told 0 0 = 2
            told 0 7 = 1
            ! told 0 -1 = BAD
            ! told 0 8 = BAD
            ! told 0 TOP = BAD
            ! told 1 -1 = BAD
            ! told 1 8 = BAD
            """);
        Runs.test("promise 15", "BAD: for what 1 to 7 also a SLOT that holds nothing", """
            ! told 0 0 = 0
            ! told 0 1 = BAD
            ! told 0 2 = BAD
            ! told 0 3 = BAD
            ! told 0 4 = BAD
            ! told 0 5 = BAD
            ! told 0 6 = BAD
            ! told 0 7 = BAD
            """);
        Runs.test("promise 15", "Of a SLOT: also where another one was changed last", """
            make 0 3 2 = 3
            give 1 6 5 1
            ! told 0 0 = 3
            ! told 0 1 = 1
            ! told 0 2 = 1
            ! told 0 3 = 1
            ! told 0 4 = 0
            ! told 0 5 = 3
            ! told 0 6 = 1
            ! told 0 7 = 1
            """);
        Runs.test("promise 15", "what is asked of a SLOT leaves it and the others", """
            give 0 2 4 3
            make 1 4 1 = 4
            ! told 0 1 = 5
            ! told 0 2 = 1
            ! told 0 3 = 5
            ! told 0 4 = 5
            ! told 0 5 = 4
            ! told 0 6 = 0
            ! told 0 7 = 0
            """);
    }

    private static void reaches() {
        Runs.test("promise 16", "The least k (1 .. 1000): 1, and never 0", """
            make 0 3 2 = 3
            make 1 3 0 = 3
            make 2 3 3 = 3
            ! reaches 0 0 = 1
            ! reaches 1 1 = 1
            ! reaches 1 0 = NONE
            ! reaches 2 0 = 3
            ! reaches 2 2 = 1
            """);
        Runs.test("promise 16", "The least k: the last that is no earlier one, and the first that is", """
            give 0 2 4 8 16 4
            power 0 4 1 = 5
            reaches 0 1 = 4
            power 0 5 1 = 5
            reaches 0 1 = 2
            power 0 6 1 = 5
            reaches 0 1 = 3
            power 0 1000000 1 = 5
            reaches 0 1 = 4
            """);
        Runs.test("promise 16", "The least k: far ones of n 12", """
            make 0 12 4 = 12
            make 1 12 1 = 12
            reaches 0 1 = 122
            power 0 121 2 = 12
            reaches 0 2 = 121
            give 0 2 4 1 16 32 64 8 256 512 1024 2048 128
            make 1 12 2 = 12
            reaches 0 1 = 60
            power 0 59 1 = 12
            reaches 0 1 = 59
            """);
        Runs.test("promise 16", "NONE", """
            make 0 12 4 = 12
            make 1 12 0 = 12
            make 2 12 2 = 12
            ! reaches 0 1 = NONE
            ! reaches 0 2 = NONE
            ! reaches 2 0 = NONE
            make 3 1 0 = 1
            make 4 1 1 = 1
            ! reaches 3 4 = NONE
            ! reaches 4 3 = NONE
            """);
        Runs.test("promise 16", "BAD; UNLIKE: BAD is named ahead", """
            make 0 2 1 = 2
            make 1 3 1 = 3
            make 5 2 1 = 2
            ! reaches 0 1 = UNLIKE
            ! reaches 1 0 = UNLIKE
            reaches 0 5 = 1
            reaches 5 0 = 1
            ! reaches 6 0 = BAD
            ! reaches -1 0 = BAD
            ! reaches 0 6 = BAD
            ! reaches 0 -1 = BAD
            ! reaches 2 0 = BAD
            ! reaches 0 2 = BAD
            ! reaches 2 3 = BAD
            """);
    }

    private static void bounds() {
        Runs.test("term 1", "BOUND 0: (n - 1)(n - 1) + 1", """
            make 0 1 1 = 1
            bound 0 0 = 1
            make 0 2 1 = 2
            bound 0 0 = 2
            make 0 12 1 = 12
            bound 0 0 = 122
            """);
        Runs.test("term 1", "BOUND 1: n + s (n - 2), s being the least GIRTH above 0", """
            make 0 2 1 = 2
            bound 0 1 = 2
            make 0 3 4 = 3
            bound 0 1 = 5
            make 0 12 1 = 12
            bound 0 1 = 22
            make 0 12 4 = 12
            bound 0 1 = 122
            put 0 5 5 1 = 0
            bound 0 1 = 22
            """);
        Runs.test("term 1", "BOUND 2: 2 n - l - 1, only if l is above 0", """
            make 0 12 4 = 12
            ! bound 0 2 = NONE
            put 0 11 11 1 = 0
            ! bound 0 2 = 22
            put 0 0 0 1 = 0
            ! bound 0 2 = 21
            make 0 12 1 = 12
            ! bound 0 2 = 11
            make 0 2 4 = 2
            ! bound 0 2 = 2
            """);
        Runs.test("term 1", "BOUND 3: 2 n - 2, only if it is its TRANSPOSE", """
            make 0 12 1 = 12
            ! bound 0 3 = 22
            put 0 0 11 0 = 1
            ! bound 0 3 = NONE
            put 0 11 0 0 = 1
            ! bound 0 3 = 22
            make 0 2 4 = 2
            ! bound 0 3 = 2
            make 0 3 4 = 3
            ! bound 0 3 = NONE
            """);
        Runs.test("term 1", "BOUND 3: (1, if n is 1)", """
            make 0 1 1 = 1
            ! bound 0 3 = 1
            """);
        Runs.test("term 1", "but for n of 1: there the EXPONENT is 1, and BOUNDS 1 and 2 don't hold", """
            make 0 1 1 = 1
            told 0 4 = 1
            ! bound 0 0 = 1
            ! bound 0 1 = 0
            ! bound 0 2 = 0
            ! bound 0 3 = 1
            """);
        Runs.test("term 1", "none is less than the EXPONENT: as great as it", """
            make 0 2 4 = 2
            told 0 4 = 2
            bound 0 0 = 2
            bound 0 1 = 2
            bound 0 2 = 2
            bound 0 3 = 2
            give 0 2 5 6
            told 0 4 = 4
            bound 0 0 = 5
            bound 0 1 = 4
            bound 0 2 = 4
            bound 0 3 = 4
            """);
    }

    private static void boundRefusals() {
        Runs.test("promise 17", "A BOUND (what 0 .. 3). BAD: also where NONE is due, too", """
            make 0 2 1 = 2
            make 1 2 0 = 2
            ! bound 0 -1 = BAD
            bound 0 0 = 2
            bound 0 3 = 2
            ! bound 0 4 = BAD
            ! bound 0 TOP = BAD
            ! bound 1 -1 = BAD
            ! bound 1 4 = BAD
            """);
        Runs.test("promise 17", "BAD: no such slot, or it holds nothing", """
            make 0 2 1 = 2
            make 5 2 1 = 2
            bound 5 0 = 2
            ! bound 6 0 = BAD
            ! bound -1 0 = BAD
            ! bound 1 0 = BAD
            ! bound 1 3 = BAD
            """);
        Runs.test("promise 17", "NONE: it isn't PRIMITIVE", """
            make 0 3 2 = 3
            ! bound 0 0 = NONE
            ! bound 0 1 = NONE
            ! bound 0 2 = NONE
            ! bound 0 3 = NONE
            make 0 1 0 = 1
            ! bound 0 0 = NONE
            ! bound 0 1 = NONE
            ! bound 0 2 = NONE
            ! bound 0 3 = NONE
            make 0 2 3 = 2
            ! bound 0 0 = NONE
            ! bound 0 1 = NONE
            ! bound 0 3 = NONE
            """);
        Runs.test("promise 17", "NONE: that BOUND isn't told for it, the others are", """
            make 0 3 4 = 3
            ! bound 0 0 = 5
            ! bound 0 1 = 5
            ! bound 0 2 = NONE
            ! bound 0 3 = NONE
            """);
    }

    private static void classes() {
        Runs.test("term 1", "CLASSES: (i is of one with itself at any rate)", """
            make 0 12 0 = 12
            ! classes 0 = 12
            make 0 1 0 = 1
            ! classes 0 = 1
            classOf 0 0 = 0
            make 0 12 2 = 12
            classes 0 = 12
            """);
        Runs.test("term 1", "CLASSES: if there are WALKS from each to the other one: one way is none", """
            make 0 12 1 = 12
            classes 0 = 1
            make 0 12 3 = 12
            classes 0 = 1
            put 0 11 0 0 = 1
            classes 0 = 12
            make 0 1 1 = 1
            classes 0 = 1
            """);
        Runs.test("term 1", "CLASSES: numbered from 0 by their least members", """
            make 0 12 0 = 12
            put 0 0 11 1 = 0
            put 0 11 0 1 = 0
            put 0 10 1 1 = 0
            put 0 1 10 1 = 0
            put 0 11 1 1 = 0
            classes 0 = 10
            classOf 0 0 = 0
            classOf 0 11 = 0
            classOf 0 1 = 1
            classOf 0 10 = 1
            classOf 0 2 = 2
            classOf 0 9 = 9
            ofClass 0 9 0 = 9
            ofClass 0 0 0 = 0
            ofClass 0 1 0 = 1
            """);
        Runs.test("promise 18", "BAD", """
            make 0 3 1 = 3
            make 5 3 0 = 3
            classes 5 = 3
            ! classes 6 = BAD
            ! classes -1 = BAD
            ! classes 1 = BAD
            ! classes TOP = BAD
            ! classes LOW = BAD
            """);
    }

    private static void classOf() {
        Runs.test("promise 19", "The CLASS of a member: the first and the last", """
            make 0 12 0 = 12
            ! classOf 0 0 = 0
            ! classOf 0 11 = 11
            ! classOf 0 12 = BAD
            ! classOf 0 -1 = BAD
            make 0 1 0 = 1
            ! classOf 0 0 = 0
            ! classOf 0 1 = BAD
            """);
        Runs.test("promise 19", "BAD: no such slot, or it holds nothing", """
            make 5 3 0 = 3
            classOf 5 2 = 2
            ! classOf 6 0 = BAD
            ! classOf -1 0 = BAD
            ! classOf 0 0 = BAD
            """);
    }

    private static void girths() {
        Runs.test("term 1", "GIRTH: the least length above 0 (0: there is none)", """
            make 0 1 0 = 1
            ofClass 0 0 3 = 0
            make 0 1 1 = 1
            ofClass 0 0 3 = 1
            make 0 12 3 = 12
            ofClass 0 0 3 = 12
            put 0 11 1 1 = 0
            ofClass 0 0 3 = 11
            put 0 5 5 1 = 0
            ofClass 0 0 3 = 1
            """);
        Runs.test("term 1", "GIRTH: of a WALK from one of it to itself: of that CLASS alone", """
            give 0 2 5 4 0
            ofClass 0 0 3 = 2
            ofClass 0 1 3 = 1
            ofClass 0 2 3 = 0
            """);
        Runs.test("term 1", "PERIOD of a CLASS: the greatest common divisor (0: there are none)", """
            make 0 1 0 = 1
            ofClass 0 0 2 = 0
            make 0 1 1 = 1
            ofClass 0 0 2 = 1
            make 0 12 3 = 12
            ofClass 0 0 2 = 12
            put 0 11 1 1 = 0
            ofClass 0 0 2 = 1
            """);
        Runs.test("term 1", "PERIOD of a CLASS: of the lengths 4 and 6: neither of them", """
            give 0 2 4 8 17 32 1
            ofClass 0 0 2 = 2
            ofClass 0 0 3 = 4
            part 0 5 = 1
            part 0 3 = 1
            """);
        Runs.test("term 1", "PERIOD of a CLASS: of the lengths 6 and 9, and 6 and 10", """
            give 0 2 4 8 16 32 65 128 256 1
            ofClass 0 0 2 = 3
            ofClass 0 0 3 = 6
            give 0 2 4 8 16 32 65 128 256 512 1
            ofClass 0 0 2 = 2
            ofClass 0 0 3 = 6
            """);
    }

    private static void levels() {
        Runs.test("term 1", "LEVEL of a CLASS: 0, if no other one leads to it", """
            make 0 1 1 = 1
            ofClass 0 0 4 = 0
            make 0 12 2 = 12
            ofClass 0 0 4 = 0
            ofClass 0 11 4 = 0
            make 0 3 3 = 3
            ofClass 0 0 4 = 0
            """);
        Runs.test("term 1", "LEVEL: 1 more than the greatest LEVEL of those that do", """
            give 0 10 4 8 0
            ofClass 0 1 4 = 1
            ofClass 0 2 4 = 2
            ofClass 0 3 4 = 3
            """);
        Runs.test("term 1", "LEVEL: the greatest of n 12, up and down the numbers", """
            give 0 2 4 8 16 32 64 128 256 512 1024 2048 0
            ofClass 0 0 4 = 0
            ofClass 0 11 4 = 11
            derive 0 1 0 = 12
            ofClass 0 0 4 = 11
            ofClass 0 11 4 = 0
            """);
        Runs.test("term 1", "CLASSES, GIRTH, PERIOD, LEVEL and BELOW are of one TABLE, whatever another one has", """
            give 0 0 1 2 4 8 16 32 64 128 256 512 1024
            give 1 2 4 1
            make 2 3 0 = 3
            ofClass 0 0 4 = 11
            ofClass 1 0 4 = 0
            ofClass 1 0 3 = 3
            ofClass 2 0 4 = 0
            ofClass 2 0 3 = 0
            ofClass 2 0 2 = 0
            ofClass 1 0 2 = 3
            ofClass 0 11 6 = 11
            ofClass 2 2 6 = 0
            ofClass 2 2 7 = 0
            ofClass 0 11 4 = 0
            ofClass 2 2 4 = 0
            part 1 2 = 2
            part 0 0 = BY_NOUGHT
            """);
        Runs.test("term 1", "BELOW it: all other CLASSES to which there is a WALK from it: none and all", """
            give 0 2 4 8 16 32 64 128 256 512 1024 2048 0
            ofClass 0 11 6 = 0
            ofClass 0 11 7 = 0
            ofClass 0 10 6 = 1
            ofClass 0 10 7 = 2048
            ofClass 0 0 6 = 11
            ofClass 0 0 7 = 4094
            """);
        Runs.test("term 1", "BELOW it: all other CLASSES: not it itself", """
            make 0 2 2 = 2
            ofClass 0 0 7 = 0
            make 0 3 3 = 3
            ofClass 0 0 6 = 0
            give 0 2 5 0
            ofClass 0 0 7 = 2
            ofClass 0 1 7 = 0
            """);
    }

    private static void ofClass() {
        Runs.test("promise 20", "what 0 its least member .. 7 those BELOW it, as bits", """
            give 0 0 4 3 2
            ! ofClass 0 1 0 = 1
            ! ofClass 0 1 1 = 2
            ! ofClass 0 1 2 = 2
            ! ofClass 0 1 3 = 2
            ! ofClass 0 1 4 = 1
            ! ofClass 0 1 5 = 6
            ! ofClass 0 1 6 = 1
            ! ofClass 0 1 7 = 1
            """);
        Runs.test("promise 20", "1 how many members, 5 its members, as bits: one and all", """
            make 0 12 1 = 12
            ofClass 0 0 1 = 12
            ofClass 0 0 5 = 4095
            make 0 12 0 = 12
            ofClass 0 11 1 = 1
            ofClass 0 11 5 = 2048
            ofClass 0 11 0 = 11
            """);
        Runs.test("promise 20", "BAD: no such CLASS", """
            make 0 12 0 = 12
            ofClass 0 0 0 = 0
            ofClass 0 11 0 = 11
            ! ofClass 0 12 0 = BAD
            ! ofClass 0 -1 0 = BAD
            make 1 12 1 = 12
            ofClass 1 0 0 = 0
            ! ofClass 1 1 0 = BAD
            ! ofClass 1 11 0 = BAD
            ! ofClass 1 LOW 0 = BAD
            ! ofClass 1 TOP 0 = BAD
            """);
        Runs.test("promise 20", "BAD: no such what", """
            make 0 3 0 = 3
            ! ofClass 0 0 -1 = BAD
            ! ofClass 0 0 8 = BAD
            ! ofClass 0 0 TOP = BAD
            """);
        Runs.test("promise 20", "BAD: no such slot, or it holds nothing", """
            make 5 3 0 = 3
            ofClass 5 2 0 = 2
            ! ofClass 6 0 0 = BAD
            ! ofClass -1 0 0 = BAD
            ! ofClass 0 0 0 = BAD
            """);
    }

    private static void part() {
        Runs.test("term 1", "PART: what remains, by the PERIOD, of the length of a WALK from its least member", """
            make 0 12 3 = 12
            ! part 0 0 = 0
            ! part 0 1 = 1
            ! part 0 11 = 11
            make 0 1 1 = 1
            ! part 0 0 = 0
            make 0 12 1 = 12
            ! part 0 11 = 0
            """);
        Runs.test("term 1", "PART: the length goes beyond the PERIOD; the least member isn't 0", """
            give 0 2 4 8 17 32 1
            part 0 2 = 0
            part 0 3 = 1
            part 0 4 = 0
            give 0 0 8 2 4 2
            part 0 1 = 0
            part 0 3 = 1
            part 0 2 = 2
            """);
        Runs.test("promise 21", "BY_NOUGHT: the PERIOD of its CLASS is 0; BAD is named ahead", """
            make 0 12 0 = 12
            ! part 0 0 = BY_NOUGHT
            ! part 0 11 = BY_NOUGHT
            ! part 0 12 = BAD
            ! part 0 -1 = BAD
            put 0 11 11 1 = 0
            part 0 11 = 0
            ! part 0 10 = BY_NOUGHT
            """);
        Runs.test("promise 21", "BAD: no such slot, or it holds nothing", """
            make 5 3 3 = 3
            part 5 2 = 2
            ! part 5 3 = BAD
            ! part 6 0 = BAD
            ! part -1 0 = BAD
            ! part 0 0 = BAD
            """);
    }

    private static void parts() {
        Runs.test("promise 22", "Members of a CLASS with a PART, as bits: part (0 .. PERIOD - 1)", """
            make 0 12 3 = 12
            ! parts 0 0 0 = 1
            ! parts 0 0 11 = 2048
            ! parts 0 0 12 = BAD
            ! parts 0 0 -1 = BAD
            make 0 12 1 = 12
            ! parts 0 0 0 = 4095
            ! parts 0 0 1 = BAD
            ! parts 0 0 -1 = BAD
            ! parts 0 0 TOP = BAD
            ! parts 0 0 LOW = BAD
            """);
        Runs.test("promise 22", "Members of that CLASS alone", """
            give 0 2 1 8 4
            parts 0 0 0 = 1
            parts 0 0 1 = 2
            parts 0 1 0 = 4
            parts 0 1 1 = 8
            """);
        Runs.test("promise 22", "BAD: slot, class", """
            make 5 3 2 = 3
            parts 5 0 0 = 1
            parts 5 2 0 = 4
            ! parts 5 3 0 = BAD
            ! parts 5 -1 0 = BAD
            ! parts 6 0 0 = BAD
            ! parts -1 0 0 = BAD
            ! parts 0 0 0 = BAD
            """);
        Runs.test("promise 22", "BY_NOUGHT: its PERIOD is 0: behind BAD of the class, ahead of BAD of the part", """
            make 0 3 0 = 3
            ! parts 0 0 0 = BY_NOUGHT
            ! parts 0 2 0 = BY_NOUGHT
            ! parts 0 0 -1 = BY_NOUGHT
            ! parts 0 0 1 = BY_NOUGHT
            ! parts 0 3 0 = BAD
            ! parts 0 -1 0 = BAD
            """);
    }

    private static void rest() {
        Runs.test("promise 23", "What remains of d by the PERIOD of a CLASS (0 .. PERIOD - 1)", """
            make 0 12 3 = 12
            ! rest 0 0 0 = 0
            ! rest 0 0 11 = 11
            ! rest 0 0 12 = 0
            ! rest 0 0 13 = 1
            ! rest 0 0 -1 = 11
            ! rest 0 0 -11 = 1
            ! rest 0 0 -12 = 0
            ! rest 0 0 -13 = 11
            """);
        Runs.test("promise 23", "What remains of the least d and of the greatest; by a PERIOD of 1", """
            make 0 12 3 = 12
            rest 0 0 TOP = 7
            rest 0 0 LOW = 4
            make 0 1 1 = 1
            rest 0 0 TOP = 0
            rest 0 0 LOW = 0
            rest 0 0 -1 = 0
            """);
        Runs.test("promise 23", "BAD; BY_NOUGHT: BAD is named ahead", """
            give 5 1 0
            rest 5 0 7 = 0
            ! rest 5 1 7 = BY_NOUGHT
            ! rest 5 1 0 = BY_NOUGHT
            ! rest 5 2 7 = BAD
            ! rest 5 -1 7 = BAD
            ! rest 6 0 7 = BAD
            ! rest -1 0 7 = BAD
            ! rest 0 0 7 = BAD
            """);
    }
}
