/** The boundary cases of Terms VI and VII and of the promises: what each call answers at the ends, and what it refuses. */
final class CallBounds {
    private static final String[] ROWS = {"tape 0 1 3", "tape 0 2 3", "tape 0 3 3", "tape 0 4 3"};
    /** A PROGRAM that books 2 of a LINE 5 with a LEAK and carries a half. */
    private static final String LEAKING = "rate 0 1 2; NEW; SUM 0; RATE 0 0 0; CARRY 0; SHOW 1 0; BOOK 1 5; line 5;";

    private CallBounds() {
    }

    static void all() {
        terms();
        beginAndSettings();
        programs();
        runs();
        askings();
        least();
        orderDriftMend();
        sameAndRounded();
        tapeAndImage();
        backAndToss();
        load();
        clearAndPut();
        atAndCopy();
        count();
        fullUse();
    }

    private static void terms() {
        Bounds.test("TAPES 0 .. 5 each hold nothing (at first), a row of bytes (sort 1), shorts (2), ints (3) or longs (4), or an IMAGE (5): ACCOUNTS, LEAKS, and the CARRIED of all PROGRAMS.",
            "clear -1 = -1; clear 0 = 0; clear 1 = 0; clear 4 = 0; clear 5 = 0; clear 6 = -1; clear MIN = -1; clear MAX = -1; tape 0 1 1 = 1; tape 1 2 1 = 1; tape 2 3 1 = 1; tape 3 4 1 = 1; image 4 = 0; clear 0 = 1; clear 1 = 2; clear 2 = 3; clear 3 = 4; clear 4 = 5; clear 5 = 0; clear 4 = 0");
        Bounds.test("The host's refusals, caught by their names: NOTHING (-11): nothing is held where something is wanted;", "put 0 0 1 = -11; back 0 = -11; toss 0 = -11; load 0 0 0 = -11; copy 0 0 1 0 0 = -11; copy 0 0 0 0 0 = -11; count 3 = 6; tape 0 4 0 = 0; put 0 0 1 = -13; clear 0 = 4; put 0 0 1 = -11; count 3 = 8");
        Bounds.test("CAST (-12): it is of another sort;", "tape 0 4 1; back 0 = -12; toss 0 = -12; load 0 0 1 = 1; tape 0 1 1; load 0 0 1 = -12; image 0; put 0 0 1 = -12; load 0 0 1 = -12; copy 0 0 0 0 1 = -12; count 3 = 6; back 0 = 0");
        Bounds.test("PLACE (-13): a row has no such place;", "tape 0 4 2; put 0 -1 1 = -13; put 0 0 1 = 1; put 0 1 1 = 1; put 0 2 1 = -13; load 0 2 1 = -13; copy 0 2 0 0 1 = -13; count 3 = 4");
        Bounds.test("SIZE (-14): a size below 0;", "tape 0 1 1; tape 0 1 0 = 0; tape 0 1 -1 = -14; tape 0 1 MIN = -14; clear 0 = 1; count 3 = 2");
        Bounds.test("THROWN (-15): a failure that is none is thrown.", LEAKING, "image 0; toss 0 = -15; run 0; image 0; toss 0 = 1; count 3 = 1");
        // Every script here sees that what it had refused changed nothing; this one has a refusal of each kind.
        Bounds.test("What is refused changes nothing.", LEAKING, "run 0; image 1; tape 2 1 2; put 2 0 7; rate 0 1 0 = -1; rate 0 10001 1 = -1; line 1000001 = -1; weight 0 1001 = -1; act 0 13 0 0 0 = -1; act 0 4 0 0 0 = -1; set 0 0 0 1 = -1; set 0 5 0 0 = -1; run 1 = -1; years 0 41 = -1; years 1 1 = -1; told 0 5 0 = -1; least 0 7 -1 0 9 = -1; mend 0 2 0 9 = -1; order 1 = -1; drift 0 0 13 1 0 = IAE",
            "tape 2 5 1 = -1; tape 2 1 65 = -1; tape 2 1 -1 = -14; image 6 = -1; back 6 = -1; back 2 = -12; back 0 = -11; toss 2 = -12; load 2 0 1 = -12; load 1 0 1 = -12; load 0 0 0 = -11; clear 6 = -1; put 2 2 1 = -13; put 1 0 1 = -12; copy 2 0 2 1 2 = -13; copy 2 0 1 0 1 = -12; copy 2 0 0 0 1 = -11; account 5 = 2; count 2 = 1; carried 0 0 = 1; count 3 = 12");
        Bounds.test("Of several refusals the one that is named first in a method's words is answered.", Script.times(12, "line 0 = #"), "line 1000001 = -1; line 0 = -2", Script.times(6, "weight 0 1"), "weight 0 1 = -2; weight 0 1001 = -1; weight 4 1001 = -1", "NEW", Script.times(20, "SUM 0"), "SUM 0 = -2; SUM 0 0 1 = -1; SUM 8 = -1; act 1 0 0 0 0 = -1; order 0 = -2; order 1 = -1",
            "tape 6 1 -1 = -1; tape 0 5 -1 = -1; tape 0 1 -1 = -14; put 6 -1 0 = -1; put 0 -1 0 = -11; image 0; put 0 -1 0 = -12; tape 0 1 1; put 0 -1 0 = -13; load 6 -1 1 = -1; load 1 -1 13 = -1; load 1 -1 1 = -11; load 0 -1 1 = -12; tape 1 4 1; put 1 0 1000001; load 1 -1 1 = -13; load 1 0 2 = -13; load 1 0 1 = -3",
            "at 6 -1 = IAE; at 2 -1 = ISE; copy 6 -1 2 -1 -1 = -1; copy 0 -1 6 -1 -1 = -1; copy 0 -1 2 -1 -1 = -11; copy 2 -1 0 -1 -1 = -11; copy 0 -1 1 -1 -1 = -12; copy 0 -1 0 -1 -1 = -13; image 3; copy 3 0 2 0 0 = -11; copy 2 0 3 0 0 = -11; copy 3 -1 0 0 0 = -12");
        Bounds.test("NONE (-1): there is no such thing, or a number is not as said.", "run 0 = -1; run -1 = -1; rate 8 0 1 = -1; rate 0 0 0 = -1; told 0 0 0 = -1; clear 6 = -1; count 4 = -1; count 3 = 0; NEW; run 0 = 0; run 1 = -1; told 0 0 0 = -1; SUM 0; told 0 0 0 = 0; told 0 0 4 = -1; count 3 = 0");
    }

    private static void beginAndSettings() {
        Bounds.test("As told in I to VI.", "count 0 = 0; count 1 = 0; count 2 = 0; count 3 = 0; count 10 = -1; count 20 = 2; count 21 = 2; count 22 = 2; count 23 = 2; failed = -2", Script.times(8, "account # = 0").replace("account 8", "account 0"), Script.times(8, "slot # 1 = 1").replace("slot 8", "slot 0"), Script.times(12, "got # = 0").replace("got 12", "got 0"), "clear 0 = 0; clear 5 = 0; bare = 0; program = 0; carried 0 0 = 0; carried 0 1 = 1");
        String begin = "No PROGRAMS and LINES; RATES, SETS, ACCOUNTS as at first; no LEAKS (TAPES stay): 0.";
        Bounds.test(begin, "begin = 0; begin = 0;", LEAKING, "line 1; weight 3 9; weight 2 -1; rate 7 3 1; NEW; NEW; NEW; run 0; account 5 = 3; count 2 = 1; tape 0 1 2; put 0 1 -5; image 1 = 4; put 2 0 0 = -11; count 3 = 1; begin = 0; count 0 = 0; count 1 = 0; count 2 = 0; count 3 = 0; account 5 = 0; count 22 = 2; count 23 = 2; count 10 = -1; failed = -2; slot 1 0 = 0; slot 1 2 = 0; got 0 = 0; part 0 = 0",
            "at 0 1 = -5; clear 1 = 5; NEW; told 0 0 0 = -1; count 10 = 0; carried 0 0 = 0; carried 0 1 = 1; CAP 7 1 1; RATE 6 7 7; RATE 5 7 0; run 0 = 3; slot 6 0 = 0; slot 5 0 = 0; begin = 0; begin = 0; program = 0; program = 1; program = 2; program = 3; program = -2");
        Bounds.test(begin, Script.times(12, "line # = #"), Script.times(6, "weight 0 1"), "begin = 0; line 5 = 1; weight 0 1 = 3; bare = 1; bare = 0");
        Bounds.test("A RATE becomes p / q: 0. NONE: no such RATE, p, q.", "rate 0 0 1 = 0; rate 7 10000 1000 = 0; rate -1 0 1 = -1; rate 8 0 1 = -1; rate 0 -1 1 = -1; rate 0 10001 1 = -1; rate 0 0 0 = -1; rate 0 0 1001 = -1; rate 0 1 1 = 0; rate 0 9999 999 = 0; rate 8 -1 0 = -1; NEW; CAP 0 1 1; RATE 1 0 0; RATE 2 0 7; run 0 = 3; slot 1 0 = 1111; slot 1 1 = 111; slot 2 0 = 10; slot 2 1 = 1");
        String line = "The BILL gets a LINE at its end: how many it has. NONE: not as in I; FULL: 12.";
        Bounds.test(line, "line 1000000 = 1; line 1000001 = -1; line -1000000 = 2; line -1000001 = -1; line 0 = 3", Script.times(8, "line #"), "count 0 = 11; line 9 = 12; line 9 = -2; line 1000000 = -2; line 1000001 = -1; line -1000001 = -1; count 0 = 12; rate 0 1 1; NEW; TAX 0; run 0; got 0 = 1000000; got 1 = -1000000; got 11 = 9; got 10 = 8");
        Bounds.test("The BILL loses its LINES: how many it had.", "bare = 0; bare = 0; line 1; bare = 1; bare = 0", Script.times(12, "line # = #"), "line 1 = -2; bare = 12; count 0 = 0; line 1 = 1; bare = 1; rate 0 1 1; NEW; SUM 0; run 0 = 1; slot 0 0 = 0");
        String weight = "A SET gets one WEIGHT more at its end, or (w -1) none at all: how many it has. (A SET without WEIGHTS, or with all 0, counts as 1, 1 in a SPLIT.) NONE: no such SET, w; FULL: 8.";
        Bounds.test(weight, "NEW; CAP 0 1 9; SPLIT 0 0 1; weight 1 -1 = 0; weight 1 -1 = 0; count 21 = 0; run 0; part 0 = 5; part 1 = 4; weight 1 0 = 1; run 0; part 0 = 5; part 1 = 4; weight 1 0 = 2; run 0; part 0 = 5; part 1 = 4; part 2 = 0; count 21 = 2; weight 1 1 = 3; run 0; part 0 = 0; part 1 = 0; part 2 = 9; weight 1 -1 = 0; weight 1 1 = 1; run 0; part 0 = 9; part 1 = 0");
        Bounds.test(weight, "weight 0 0 = 3; weight 0 1000 = 4; weight 0 -2 = -1; weight 0 1001 = -1; weight 0 1 = 5; weight 0 1 = 6; weight 0 1 = 7; weight 0 1 = 8; weight 0 1 = -2; weight 0 0 = -2; weight 0 1000 = -2; weight 0 1001 = -1; weight 0 -2 = -1; weight 4 1 = -1; weight -1 1 = -1; count 20 = 8; weight 0 -1 = 0; count 20 = 0; weight 0 1 = 1; count 21 = 2");
        // Rules 1 to 3, the law SHARE and a run by doubles take a set of zeros for 1, 1 as well.
        Bounds.test(weight, "weight 1 -1; weight 1 0; weight 1 0; weight 1 0; NEW; SUM 0; SPLIT 0 1 1; PART 1 0; BOOK 1; line 9; run 0; part 0 = 5; part 1 = 4; set 0 1 2 1; run 0; part 0 = 5; part 1 = 4; part 2 = 0; set 0 1 3 1; run 0; part 0 = 4; part 1 = 5; least 0 3 -1 -9 9 = HOLDS; least 0 6 -1 -9 9 = HOLDS");
    }

    private static void programs() {
        Bounds.test("A new PROGRAM without ACTS: its number. FULL: 4.", "program = 0; count 10 = 0; program = 1; program = 2; count 1 = 3; count 13 = -1; program = 3; count 1 = 4; count 13 = 0; program = -2; program = -2; count 1 = 4; begin = 0; program = 0");
        String act = "A PROGRAM gets an ACT at its end: how many it has. NONE: no such PROGRAM, kind (0 .. 12); s is no SLOT; t or v is not as in II (SLOT, RATE, MODE, SET, RULE, ACCOUNT, or 0 where told); FULL: 20.";
        Bounds.test(act, "act 0 0 0 0 0 = -1; program = 0; act -1 0 0 0 0 = -1; act 0 0 0 0 0 = 1; act 1 0 0 0 0 = -1; act MIN 0 0 0 0 = -1; act MAX 0 0 0 0 = -1; program = 1; act 1 0 0 0 0 = 1; act 2 0 0 0 0 = -1; act 0 -1 0 0 0 = -1; act 0 12 0 0 1 = 2; act 0 13 0 0 1 = -1; act 0 0 -1 0 0 = -1; act 0 0 8 0 0 = -1; act 0 0 7 0 0 = 3; told 0 2 1 = 7; count 10 = 3; count 11 = 1");
        Bounds.test(act, "NEW", Script.times(18, "CARRY 3 = #"), "DAYS 1 7 30 = 19; ROUND 2 5 100 = 20; SUM 0 = -2; count 10 = 20; SUM 8 = -1; SUM 0 1 = -1; SUM 0 0 1 = -1; act 0 13 0 0 0 = -1; act 1 0 0 0 0 = -1; told 0 17 0 = 8; told 0 18 0 = 12; told 0 19 0 = 4; told 0 19 1 = 2; told 0 19 2 = 5; told 0 19 3 = 100; told 0 20 0 = -1; NEW; SUM 0 = 1; run 0 = 20");
        String set = "An ACT's t and v become others: 0. NONE: no such PROGRAM, ACT; t or v as in act().";
        Bounds.test(set, "set 0 0 0 0 = -1; NEW; set 0 0 0 0 = -1; ROUND 3 0 1; set 0 -1 0 1 = -1; set 0 0 5 100 = 0; set 0 1 0 1 = -1; set -1 0 0 1 = -1; set 1 0 0 1 = -1; set 0 0 6 100 = -1; set 0 0 -1 100 = -1; set 0 0 5 101 = -1; set 0 0 5 0 = -1; set 0 MIN 0 1 = -1; set 0 MAX 0 1 = -1; told 0 0 0 = 4; told 0 0 1 = 3; told 0 0 2 = 5; told 0 0 3 = 100; set 0 0 0 1 = 0; told 0 0 2 = 0; told 0 0 3 = 1");
        Bounds.test(set, "NEW", Script.times(20, "CAP 0 1 # = #"), "set 0 19 0 1000000 = 0; set 0 20 0 1 = -1; set 0 0 1 0 = 0; told 0 19 2 = 0; told 0 19 3 = 1000000; told 0 18 3 = 19; told 0 0 3 = 0; count 10 = 20");
        String told = "Of a PROGRAM's i-th ACT: what 0 kind, 1 s, 2 t, 3 v. NONE: there is none, no such what.";
        Bounds.test(told, "told 0 0 0 = -1; NEW; told 0 0 0 = -1; DAYS 7 6 30; told 0 0 0 = 12; told 0 0 1 = 7; told 0 0 2 = 6; told 0 0 3 = 30; told 0 0 4 = -1; told 0 0 -1 = -1; told 0 0 MIN = -1; told 0 0 MAX = -1; told 0 1 0 = -1; told 0 -1 0 = -1; told 0 MIN 0 = -1; told 0 MAX 0 = -1; told 1 0 0 = -1; told -1 0 0 = -1; told MIN 0 0 = -1; told MAX 0 0 = -1; SUM 0; told 0 1 0 = 0; told 0 2 0 = -1; NEW; told 1 0 0 = -1");
    }

    private static void runs() {
        String run = "A PROGRAM RUNS with the BILL: how many ACTS it has if none fails. NONE: no such PROGRAM; WHOLE; SPENT: an ACT fails by that.";
        Bounds.test(run, "run 0 = -1; NEW; run 0 = 0; failed = -2; SUM 0; run 0 = 1; run 1 = -1; run -1 = -1; run MIN = -1; run MAX = -1", Script.times(18, "SUM 0"), "run 0 = 19; SUM 0; run 0 = 20; NEW; NEW; NEW; run 3 = 0; run 4 = -1; slot 0 1 = 1");
        Bounds.test(run, "rate 0 1 2; rate 1 10000 1; line 1; NEW; SUM 0; RATE 0 0 0; BOOK 0; run 0 = -5; NEW; SUM 0; RATE 0 0 1; RATE 0 0 1; RATE 0 0 1; RATE 0 0 1; run 1 = -6; failed = 4; slot 0 0 = 1000000000000; run 0 = -5; failed = 2; bare; run 0 = 3; run 1 = 5");
        String years = "A PROGRAM RUNS n times in a row, up to the first that fails: how many didn't. NONE: no such PROGRAM, n is not 0 .. 40.";
        Bounds.test(years, "years 0 0 = -1; NEW; years 0 -1 = -1; years 0 0 = 0; years 0 1 = 1; years 0 39 = 39; years 0 40 = 40; years 0 41 = -1; years 0 MIN = -1; years 0 MAX = -1; years 1 1 = -1; years -1 1 = -1; SUM 0; BOOK 0; line 3; years 0 40 = 40; account 0 = 120; years 0 0 = 0; account 0 = 120; years 0 1 = 1; account 0 = 123; failed = -2");
        // A third is carried on each year; then an act is added that books a third, and every year fails.
        Bounds.test(years, "rate 0 1 3; line 1; NEW; SUM 0; RATE 0 0 0; CARRY 0; BOOK 0; SUM 1; RATE 1 1 0; years 0 2 = 2; account 0 = 0; years 0 1 = 1; account 0 = 1; BOOK 1; years 0 5 = 0; failed = 6; account 0 = 1; carried 0 0 = 0; rate 0 1 1; years 0 5 = 5; failed = -2; account 0 = 11; bare; rate 0 1 3; line 3; years 0 40 = 40; account 0 = 91");
        // CARRIED has the greatest lower number that it may have; a third added to it would have a greater one.
        Bounds.test(years, "rate 0 1 512; rate 1 1 1000; line 1; NEW; SUM 0; RATE 0 0 0; RATE 0 0 0; RATE 0 0 2; CARRY 0; rate 2 1 4; years 0 1 = 1; carried 0 1 = 1048576; rate 2 1 2; years 0 3 = 3; carried 0 0 = 7; carried 0 1 = 1048576; rate 0 1 1; rate 2 1 3; years 0 3 = 0; failed = 4; carried 0 0 = 7; carried 0 1 = 1048576");
        failingLater(years);
        String failed = "The ACT by which the last RUN (of run() or years()) since begin() failed; -2: it didn't, or there was none.";
        Bounds.test(failed, "failed = -2; rate 0 1 2; line 1; NEW; SUM 0; RATE 0 0 0; SPLIT 0; failed = -2; run 0 = -5; failed = 2; least 0 4 -1 0 0 = HOLDS; mend 0 0 0 0 = HOLDS; order 0 = HOLDS; run 1 = -1; years 0 41 = -1; failed = 2; rate 0 1 1; run 0 = 3; failed = -2; least 0 4 -1 1 1 = HOLDS; rate 0 1 2; least 0 4 -1 1 1 = 1; failed = -2; years 0 2 = 0; failed = 2; begin = 0; failed = -2");
        Bounds.test(failed, "rate 0 1 2; NEW; CAP 0 1 1; RATE 0 0 0; NEW; RATE 0 0 0; BOOK 0; run 1 = 2; failed = -2; NEW; CAP 0 1 1; RATE 0 0 0", Script.times(17, "SUM 7"), "BOOK 0; run 2 = -5; failed = 19; NEW; BOOK 0; run 3 = 1; failed = -2");
    }

    /** A year that fails behind years that didn't: what is carried comes to 1, and a half of that can't be booked. */
    private static void failingLater(String quote) {
        Bounds.test(quote, "rate 0 1 2; line 1; NEW; SUM 0; RATE 0 0 0; CARRY 0; RATE 1 0 0; BOOK 1; years 0 5 = 1; failed = 4; carried 0 0 = 1; carried 0 1 = 2; slot 0 0 = 1; slot 1 0 = 1; slot 1 1 = 2; years 0 5 = 0; run 0 = -5; bare; line 3; years 0 5 = 1; failed = 4; slot 0 0 = 1; account 0 = 1; carried 0 0 = 0");
        Bounds.test(quote, "rate 0 1 40; line 1; rate 1 1 2; NEW; SUM 0; RATE 0 0 0; CARRY 0; RATE 1 0 1; BOOK 1; years 0 38 = 38; carried 0 0 = 19; carried 0 1 = 20; years 0 1 = 1; years 0 40 = 0; failed = 4; carried 0 0 = 39; begin; rate 0 1 40; line 1; rate 1 1 2; NEW; SUM 0; RATE 0 0 0; CARRY 0; RATE 1 0 1; BOOK 1; years 0 40 = 39; failed = 4; carried 0 0 = 39; carried 0 1 = 40");
        Bounds.test(quote, "rate 0 1 41; line 1; rate 1 1 2; NEW; SUM 0; RATE 0 0 0; CARRY 0; RATE 1 0 1; BOOK 1; years 0 40 = 40; failed = -2; carried 0 0 = 40; carried 0 1 = 41; years 0 1 = 0; failed = 4");
    }

    private static void askings() {
        Bounds.test("An ACCOUNT. IllegalArgumentException: there is none.", "NEW; SUM 0; BOOK 0 0; BOOK 0 7 1; line 4; run 0; account -1 = IAE; account 0 = 4; account 1 = 0; account 6 = 0; account 7 = -4; account 8 = IAE; account MIN = IAE; account MAX = IAE");
        String slot = "A SLOT behind the last RUN (of run() or years()) since begin(), or its failing ACT: what 0 the upper, 1 the lower number, 2 1 if it is SHOWN, else 0. (0, 1, 0 if there was none.) IllegalArgumentException: no such SLOT, what.";
        Bounds.test(slot, "slot 0 0 = 0; slot 0 1 = 1; slot 0 2 = 0; slot 7 0 = 0; slot 7 1 = 1; slot 7 2 = 0; slot -1 0 = IAE; slot 8 0 = IAE; slot 0 -1 = IAE; slot 0 3 = IAE; slot MIN 0 = IAE; slot MAX 0 = IAE; slot 0 MIN = IAE; slot 0 MAX = IAE; slot 8 3 = IAE");
        Bounds.test(slot, "rate 0 1 2; line 1; NEW; SUM 0; RATE 0 0 0; SHOW 7 0 5; NEW; CAP 7 1 9; run 0; slot 0 0 = 1; slot 0 1 = 2; slot 0 2 = 0; slot 7 0 = 1; slot 7 2 = 1; least 1 0 -1 0 9 = HOLDS; run 2 = -1; slot 7 2 = 1; years 1 3 = 3; slot 7 0 = 9; slot 7 2 = 0; slot 0 0 = 0; slot 0 1 = 1; years 1 0 = 0; slot 7 0 = 9; begin; slot 7 0 = 0; slot 7 1 = 1");
        Bounds.test(slot, "rate 0 1 2; line 1; NEW; CAP 3 1 4; SUM 0; RATE 0 0 0; SPLIT 0; CAP 3 1 5; CAP 4 1 6; run 0 = -5; slot 3 0 = 4; slot 0 1 = 2; slot 4 0 = 0; years 0 2 = 0; slot 3 0 = 4; slot 4 0 = 0");
        Bounds.test("The i-th PART behind that RUN. IllegalArgumentException: i is not 0 .. 7.", "part -1 = IAE; part 0 = 0; part 7 = 0; part 8 = IAE; part MIN = IAE; part MAX = IAE; weight 0 -1", Script.times(8, "weight 0 #"), "NEW; CAP 0 1 36; SPLIT 0; run 0; part 0 = 1; part 1 = 2; part 6 = 7; part 7 = 8; part 8 = IAE; part -1 = IAE; NEW; least 0 3 -1 0 9 = HOLDS; part 7 = 8; run 1; part 0 = 0; part 7 = 0");
        String got = "The RESULT of the i-th LINE of that RUN (0 beyond its LINES). IllegalArgumentException: i is not 0 .. 11.";
        Bounds.test(got, "got -1 = IAE; got 0 = 0; got 11 = 0; got 12 = IAE; got MIN = IAE; got MAX = IAE; rate 0 1 1; NEW; TAX 0; run 0; got 0 = 0", Script.times(11, "line #"), "run 0; got 0 = 1; got 10 = 11; got 11 = 0; got 12 = IAE; line 12; got 11 = 0; run 0; got 11 = 12; got 12 = IAE; bare; line 5; got 11 = 12; run 0; got 0 = 5; got 1 = 0; got 11 = 0; order 0 = HOLDS; least 0 0 -1 1 1 = HOLDS; got 0 = 5");
        String carried = "CARRIED of a PROGRAM: what 0 the upper, 1 the lower number. IllegalArgumentException: no such PROGRAM, what.";
        Bounds.test(carried, "carried 0 0 = IAE; NEW; carried 0 0 = 0; carried 0 1 = 1; carried 0 2 = IAE; carried 0 -1 = IAE; carried 1 0 = IAE; carried -1 0 = IAE; carried MIN 0 = IAE; carried MAX 0 = IAE; carried 0 MIN = IAE; carried 0 MAX = IAE; NEW; NEW; NEW; carried 3 1 = 1; carried 4 1 = IAE; rate 0 3 4; line 1; act 3 0 0 0 0; act 3 3 0 0 0; act 3 8 0 0 0; run 3 = 3; carried 3 0 = 3; carried 3 1 = 4; carried 0 1 = 1");
    }

    private static void least() {
        String quote = "The first a, rising from from to to, that BREAKS a LAW (0 .. 6; other is the PROGRAM of LAW 2, -1 for the rest); HOLDS: none does.";
        Bounds.test(quote, "NEW; SUM 0; CAP 0 1 5; BOOK 0; least 0 0 -1 0 9 = 0; CAP 0 0 7; CAP 0 1 0; NEW; SUM 0; CAP 0 0 7; SUM 1; ADD 0 1 1; BOOK 0; least 1 0 -1 0 9 = 8; least 1 0 -1 0 8 = 8; least 1 0 -1 0 7 = HOLDS; least 1 0 -1 8 8 = 8; least 1 0 -1 9 9 = 9; least 1 0 -1 -9 8 = 8; least 1 -1 -1 0 0 = -1; least 1 7 -1 0 0 = -1; least 1 6 -1 0 9 = HOLDS; least 1 MIN -1 0 0 = -1; least 1 MAX -1 0 0 = -1");
        for (int law = 0; law < 7; law++) {
            String text = law == 2 ? "least 0 2 -1 0 1 = -1; least 0 2 0 0 1 = HOLDS; least 0 2 1 0 1 = HOLDS; least 0 2 2 0 1 = -1; least 0 2 -2 0 1 = -1; least 0 2 MIN 0 1 = -1; least 0 2 MAX 0 1 = -1"
                : "least 0 # -1 0 1 = HOLDS; least 0 # 0 0 1 = -1; least 0 # 1 0 1 = -1; least 0 # 2 0 1 = -1; least 0 # -2 0 1 = -1; least 0 # MIN 0 1 = -1; least 0 # MAX 0 1 = -1";
            Bounds.test(quote, "least 0 # -1 0 1 = -1; NEW; NEW;".replace("#", "" + law), text.replace("#", "" + law));
        }
        Bounds.test("Nothing else is changed by it.", LEAKING, "line 3; line 4; NEW; TAX 0; SPLIT 0; BOOK 0; rate 0 3 4; run 1 = 3; run 0; least 0 0 -1 -9 9 = -9; least 0 1 -1 -9 9 = -9; least 0 2 1 -9 9 = -9; least 1 3 -1 -9 9 = HOLDS; least 0 4 -1 -9 9 = HOLDS; least 0 5 -1 -9 9 = -9; least 0 6 -1 -9 9 = HOLDS; count 0 = 3; got 0 = 0; slot 0 0 = 9; slot 1 2 = 1; part 0 = 0; account 5 = 9; count 2 = 1; carried 0 0 = 0; account 0 = 9; failed = -2");
        String refused = "NONE: no such PROGRAM, LAW, other; from or to is beyond 1000000 either way, to is below from or more than 2000 above.";
        Bounds.test(refused, "NEW; least 0 0 -1 999999 1000000 = HOLDS; least 0 0 -1 1000000 1000000 = HOLDS; least 0 0 -1 1000000 1000001 = -1; least 0 0 -1 1000001 1000001 = -1; least 0 0 -1 -1000000 -999999 = HOLDS; least 0 0 -1 -1000000 -1000000 = HOLDS; least 0 0 -1 -1000001 -1000000 = -1; least 0 0 -1 -1000001 -1000001 = -1; least 0 0 -1 MIN MIN = -1; least 0 0 -1 MAX MAX = -1; least 0 0 -1 MIN MAX = -1; least 0 0 -1 MAX MIN = -1");
        Bounds.test(refused, "NEW; least 0 0 -1 0 -1 = -1; least 0 0 -1 0 0 = HOLDS; least 0 0 -1 0 1 = HOLDS; least 0 0 -1 0 1999 = HOLDS; least 0 0 -1 0 2000 = HOLDS; least 0 0 -1 0 2001 = -1; least 0 0 -1 -1000 1000 = HOLDS; least 0 0 -1 -1000 1001 = -1; least 0 0 -1 -1001 1000 = -1; least 0 0 -1 998000 1000000 = HOLDS; least 0 0 -1 997999 1000000 = -1; least 0 0 -1 -1000000 -998000 = HOLDS; least 0 0 -1 -1000000 -997999 = -1; least 1 0 -1 0 0 = -1; least -1 0 -1 0 0 = -1; least MIN 0 -1 0 0 = -1; least MAX 0 -1 0 0 = -1; least 0 0 -1 -2147483648 -147483648 = -1");
        Bounds.test(refused, "NEW; SUM 0; BOOK 0; CAP 0 0 1000000; least 0 0 -1 -2000 0 = -2000; SUM 1; CAP 1 0 999999; BOOK 1 1 1; least 0 0 -1 998000 1000000 = 1000000; set 0 4 1 999000; least 0 0 -1 997500 999100 = 997500; least 0 0 -1 999000 1000000 = HOLDS");
    }

    private static void orderDriftMend() {
        String order = "ORDER of a PROGRAM: the number of the first order at which it MATTERS; HOLDS: it doesn't. NONE: no such PROGRAM; FULL: the BILL has more than 6 LINES.";
        Bounds.test(order, "order 0 = -1; NEW; order 0 = HOLDS; order 1 = -1; order -1 = -1; order MIN = -1; order MAX = -1; rate 0 1 2; FLOW 0 0 4; line 1; line 1; line 1; line 1; line 1; order 0 = 1; line 1; order 0 = 1; line 1; order 0 = -2; order 1 = -1", Script.times(5, "line 1"), "order 0 = -2; order -1 = -1; bare; order 0 = HOLDS; NEW; NEW; NEW; order 3 = HOLDS; order 4 = -1");
        String drift = "DRIFT: what 0 the greatest, 1 the least. IllegalArgumentException: no such RATE, or its q is above 100; no such MODE, n, M, what.";
        Bounds.test(drift, "rate 0 1 2; rate 7 1 2; drift 0 0 3 1 0 = 1; drift 0 0 3 1 1 = 0; drift 0 0 3 1 -1 = IAE; drift 0 0 3 1 2 = IAE; drift 0 0 3 1 MIN = IAE; drift 0 0 3 1 MAX = IAE; drift -1 0 3 1 0 = IAE; drift 7 0 3 1 0 = 1; drift 8 0 3 1 0 = IAE; drift MIN 0 3 1 0 = IAE; drift MAX 0 3 1 0 = IAE; rate 7 1 100; drift 7 0 3 1 0 = 0; rate 7 1 101; drift 7 0 3 1 0 = IAE; drift 6 0 3 1 0 = 0; drift 0 6 3 1 0 = IAE; drift 0 0 13 1 0 = IAE; drift 0 0 3 1001 0 = IAE");
        String mend = "MEND for a LAW other than 2 on the span from .. to: 10 times the ACT's number and the MODE or RULE; HOLDS: no a BREAKS it as it is. The PROGRAM stays. NONE: no such PROGRAM, LAW (2, too); the span as in least(), but 300 at most; UNABLE: there is none.";
        Bounds.test(mend, "mend 0 0 0 0 = -1; NEW; mend 0 0 0 0 = HOLDS; mend 1 0 0 0 = -1; mend -1 0 0 0 = -1; mend MIN 0 0 0 = -1; mend MAX 0 0 0 = -1; mend 0 -1 0 0 = -1; mend 0 1 0 0 = HOLDS; mend 0 2 0 0 = -1; mend 0 3 0 0 = HOLDS; mend 0 4 0 0 = HOLDS; mend 0 5 0 0 = HOLDS; mend 0 6 0 0 = HOLDS; mend 0 7 0 0 = -1; mend 0 MIN 0 0 = -1; mend 0 MAX 0 0 = -1");
        Bounds.test(mend, "NEW; mend 0 0 0 -1 = -1; mend 0 0 0 1 = HOLDS; mend 0 0 0 299 = HOLDS; mend 0 0 0 300 = HOLDS; mend 0 0 0 301 = -1; mend 0 0 -150 150 = HOLDS; mend 0 0 -151 150 = -1; mend 0 0 999700 1000000 = HOLDS; mend 0 0 999699 1000000 = -1; mend 0 0 1000000 1000001 = -1; mend 0 0 1000001 1000001 = -1; mend 0 0 -1000000 -999700 = HOLDS; mend 0 0 -1000000 -999699 = -1; mend 0 0 -1000001 -1000000 = -1; mend 0 0 MIN MAX = -1; mend 0 0 MAX MIN = -1; mend 0 0 MIN MIN = -1; mend 0 0 MAX MAX = -1");
        // It breaks at the last of the span, and not within it.
        Bounds.test(mend, "rate 0 1 1000; NEW; TAX 0 0 0; BOOK 0; mend 0 0 200 499 = HOLDS; mend 0 0 200 500 = 1; mend 0 0 201 501 = 2; mend 0 0 -499 -200 = HOLDS; mend 0 0 -500 -200 = 1; told 0 0 3 = 0; set 0 0 0 3; mend 0 0 1 300 = 0; mend 0 0 0 0 = HOLDS; mend 0 0 1000 1000 = -3; told 0 0 3 = 3; told 0 0 2 = 0");
        Bounds.test(mend, LEAKING, "ROUND 1 0 1; SPLIT 1 1 0; run 0; mend 0 5 0 9 = -3; told 0 3 3 = 0; told 0 5 2 = 0; told 0 6 2 = 1; account 5 = 2; count 2 = 1; carried 0 0 = 1; count 0 = 1; failed = -2; mend 0 6 0 9 = HOLDS; mend 0 3 0 9 = HOLDS");
    }

    private static void sameAndRounded() {
        Bounds.test("Whether two PROGRAMS have the same ACTS (1, 0). NONE: no such PROGRAM.", "same 0 0 = -1; NEW; same 0 0 = 1; same 0 1 = -1; same 1 0 = -1; same -1 0 = -1; same 0 -1 = -1; same MIN 0 = -1; same 0 MAX = -1; NEW; same 0 1 = 1; ADD 1 2 1; same 0 1 = 0; same 1 0 = 0; act 0 5 1 2 1; same 0 1 = 1; ADD 1 2 1; same 0 1 = 0; same 1 0 = 0; act 0 5 1 2 0; same 0 1 = 0; set 0 1 2 1; same 0 1 = 1; set 0 1 1 1; same 0 1 = 0",
            "NEW; NEW; same 2 3 = 1; same 3 4 = -1; same 4 3 = -1; act 2 0 0 0 0; act 3 0 1 0 0; same 2 3 = 0; same 2 2 = 1");
        Bounds.test("Whether two PROGRAMS have the same ACTS (1, 0). NONE: no such PROGRAM.", "NEW; NEW", Script.times(19, "act 0 8 0 0 0 = #"), Script.times(19, "act 1 8 0 0 0 = #"), "act 0 8 0 0 0; act 1 0 0 0 0; same 0 1 = 0; begin; NEW; NEW; SUM 0; act 0 8 0 0 0; same 0 1 = 0");
        Bounds.test("Whether two PROGRAMS have the same ACTS (1, 0). NONE: no such PROGRAM.", "NEW; NEW", Script.times(20, "act 0 9 0 1 # = #"), Script.times(20, "act 1 9 0 1 # = #"), "same 0 1 = 1; set 1 19 1 21; same 0 1 = 0; set 0 19 1 21; same 1 0 = 1; begin; NEW; NEW; act 0 9 0 1 1; act 1 9 0 1 1; same 0 1 = 1; act 0 8 3 0 0; same 0 1 = 0; begin; NEW; NEW; act 0 9 0 1 1; act 1 9 0 1 1; same 0 1 = 1");
        // What is carried is no act.
        Bounds.test("Whether two PROGRAMS have the same ACTS (1, 0). NONE: no such PROGRAM.", "rate 0 1 2; line 1; NEW; SUM 0; RATE 0 0 0; CARRY 0; NEW; SUM 0; RATE 0 0 0; CARRY 0; run 0; carried 0 0 = 1; same 0 1 = 1");
        String rounded = "ROUNDING of n / d to a multiple of m by a MODE. IllegalArgumentException: d or m is not 1 .. 1000000, n beyond 10^12 either way, no such MODE.";
        Bounds.test(rounded, "rounded 3 0 1 0 = IAE; rounded 3 1 1 0 = 3; rounded 3 2 1 0 = 2; rounded 3 999999 1 5 = 1; rounded 3 1000000 1 5 = 1; rounded 3 1000001 1 5 = IAE; rounded 3 -1 1 0 = IAE; rounded 3 MIN 1 0 = IAE; rounded 3 MAX 1 0 = IAE; rounded 3 1 0 0 = IAE; rounded 3 1 2 0 = 4; rounded 3 1 999999 5 = 999999; rounded 3 1 1000000 5 = 1000000; rounded 3 1 1000001 5 = IAE; rounded 3 1 -1 0 = IAE; rounded 3 1 MIN 0 = IAE; rounded 3 1 MAX 0 = IAE");
        Bounds.test(rounded, "rounded 999999999999 1 1 0 = 999999999999; rounded 1000000000000 1 1 0 = 1000000000000; rounded 1000000000001 1 1 0 = IAE; rounded -999999999999 1 1 0 = -999999999999; rounded -1000000000000 1 1 0 = -1000000000000; rounded -1000000000001 1 1 0 = IAE; rounded LMIN 1 1 0 = IAE; rounded LMAX 1 1 0 = IAE; rounded 1 1 1 -1 = IAE; rounded 1 1 1 5 = 1; rounded 1 1 1 6 = IAE; rounded 1 1 1 MIN = IAE; rounded 1 1 1 MAX = IAE; rounded 4294967297 1 1 0 = 4294967297");
        Bounds.test(rounded, "rounded 1000000000000 1000000 1000000 0 = 1000000; rounded 999999999999 1000000 1000000 4 = 0; rounded 999999999999 1000000 1000000 2 = 0; rounded 999999999999 1000000 1000000 5 = 1000000; rounded -1000000000000 1000000 1000000 4 = -1000000; rounded -999999999999 1000000 1000000 5 = 0; rounded 1 1000000 1000000 3 = 1000000; rounded -1 1000000 1000000 3 = -1000000; rounded 1000000000000 1 999999 5 = 1000000999998",
            "rounded 499999999999 1000000 1000000 0 = 0; rounded 500000000000 1000000 1000000 0 = 1000000; rounded 500000000000 1000000 1000000 1 = 0; rounded 500000000001 1000000 1000000 1 = 1000000; rounded -500000000000 1000000 1000000 0 = -1000000; rounded -500000000001 1000000 1000000 1 = -1000000; rounded 0 1 1 3 = 0; rounded 0 1000000 1000000 5 = 0");
    }

    private static void tapeAndImage() {
        String tape = "TAPE d gets a row of n elements, all 0, of a sort (1 .. 4): n. NONE: no such TAPE, sort, n above 64; SIZE.";
        Bounds.test(tape, "tape -1 1 1 = -1; tape 0 1 1 = 1; tape 1 1 1 = 1; tape 4 1 1 = 1; tape 5 1 1 = 1; tape 6 1 1 = -1; tape MIN 1 1 = -1; tape MAX 1 1 = -1; tape 0 0 1 = -1; tape 0 1 1 = 1; tape 0 2 1 = 1; tape 0 3 1 = 1; tape 0 4 1 = 1; tape 0 5 1 = -1; tape 0 -1 1 = -1; tape 0 MIN 1 = -1; tape 0 MAX 1 = -1; clear 0 = 4");
        for (int sort = 1; sort <= 4; sort++) {
            Bounds.test(tape, "tape 2 # -1 = -14; clear 2 = 0; tape 2 # 0 = 0; at 2 0 = ISE; tape 2 # 1 = 1; at 2 0 = 0; at 2 1 = ISE; tape 2 # 63 = 63; at 2 62 = 0; at 2 63 = ISE; tape 2 # 64 = 64; at 2 63 = 0; at 2 64 = ISE; tape 2 # 65 = -1; at 2 63 = 0; tape 2 # MAX = -1; tape 2 # MIN = -14; tape 6 # -1 = -1; tape 2 0 -1 = -1; tape 2 5 -1 = -1; clear 2 = #; count 3 = 2".replace("#", "" + sort));
            Bounds.test(tape, "tape 2 # 64 = 64;".replace("#", "" + sort), "put 2 0 5; put 2 63 6; tape 2 4 64 = 64; at 2 0 = 0; at 2 63 = 0; put 2 63 7; tape 2 1 -1 = -14; at 2 63 = 7; tape 2 1 65 = -1; tape 2 0 1 = -1; at 2 63 = 7; image 2; tape 2 1 2 = 2; at 2 0 = 0; at 2 2 = ISE");
        }
        String image = "TAPE d gets an IMAGE: how many PROGRAMS there are. NONE: no such TAPE.";
        Bounds.test(image, "image -1 = -1; image 0 = 0; image 5 = 0; image 6 = -1; image MIN = -1; image MAX = -1; NEW; image 0 = 1; NEW; NEW; NEW; image 0 = 4; program = -2; image 0 = 4; begin; image 0 = 0; clear 0 = 5; tape 1 1 3; image 1 = 0; clear 1 = 5; count 3 = 0");
    }

    private static void backAndToss() {
        String back = "ACCOUNTS, LEAKS and the CARRIED become as in the IMAGE on TAPE d (PROGRAMS made since have 0): LEAKS. NONE: no such TAPE; NOTHING; CAST; UNABLE: it has more PROGRAMS than there are.";
        Bounds.test(back, "back -1 = -1; back 0 = -11; back 5 = -11; back 6 = -1; back MIN = -1; back MAX = -1; image 5 = 0; back 5 = 0; image 0 = 0; back 0 = 0; tape 0 1 0; back 0 = -12; tape 0 4 64; back 0 = -12; clear 0; back 0 = -11; count 3 = 5");
        for (String row : ROWS) {
            Bounds.test(back, row, "back 0 = -12; toss 0 = -12; count 3 = 2");
        }
        Bounds.test(back, LEAKING, "image 0 = 1; run 0; account 5 = 2; carried 0 0 = 1; carried 0 1 = 2; count 2 = 1; image 1 = 1; years 0 3 = 3; account 5 = 10; count 2 = 4; back 1 = 1; account 5 = 2; carried 0 0 = 1; carried 0 1 = 2; count 2 = 1; count 0 = 1; count 10 = 5; slot 0 0 = 3; failed = -2; back 0 = 0; account 5 = 0; carried 0 0 = 0; carried 0 1 = 1; count 2 = 0; back 1 = 1; back 1 = 1; count 2 = 1");
        Bounds.test(back, LEAKING, "run 0; image 0 = 1; begin; back 0 = -3; account 5 = 0; count 3 = 0; NEW; back 0 = 1; account 5 = 2; carried 0 0 = 1; carried 0 1 = 2; NEW; back 0 = 1; carried 1 0 = 0; carried 1 1 = 1; NEW; NEW; back 0 = 1; carried 3 1 = 1; image 1 = 4; begin; NEW; NEW; NEW; back 1 = -3; carried 0 1 = 1; NEW; back 1 = 1; carried 0 1 = 2; count 3 = 0");
        // What programs made since have carried is 0 again; the image itself stays.
        Bounds.test(back, LEAKING, "image 0 = 1; NEW; SUM 0; RATE 0 0 0; CARRY 0; run 1; carried 1 0 = 1; image 1 = 2; back 0 = 0; carried 1 0 = 0; carried 1 1 = 1; back 1 = 0; carried 1 0 = 1; carried 1 1 = 2; run 0; back 0 = 0; back 1 = 0; count 2 = 0; run 0; image 0; back 1 = 0; back 0 = 1; account 5 = 2");
        String toss = "The failure of the IMAGE on TAPE d is thrown, and caught: its LEAKS. NONE: no such TAPE; NOTHING; CAST; THROWN: one without LEAKS has none.";
        Bounds.test(toss, LEAKING, "toss -1 = -1; toss 0 = -11; toss 5 = -11; toss 6 = -1; toss MIN = -1; toss MAX = -1; tape 0 1 0; toss 0 = -12; image 0; toss 0 = -15; run 0; toss 0 = -15; image 5; toss 5 = 1; run 0; toss 5 = 1; image 5; toss 5 = 2; toss 5 = 2; count 2 = 2; count 3 = 5; years 0 40 = 40; image 0; toss 0 = 42; begin; toss 0 = 42; count 3 = 0; count 2 = 0; image 0; toss 0 = -15; count 3 = 1");
    }

    private static void load() {
        String quote = "The BILL becomes n elements of the row on TAPE d from place i on (shorts, ints or longs, each as it is): n. NONE: no such TAPE, n is not 0 .. 12; NOTHING; CAST: it is a row of bytes, or an IMAGE; PLACE: i is below 0, or the row has not so many from there; UNABLE: an element is no LINE.";
        Bounds.test(quote, "tape 0 4 20; tape 5 4 20; load -1 0 1 = -1; load 0 0 1 = 1; load 5 0 1 = 1; load 6 0 1 = -1; load MIN 0 1 = -1; load MAX 0 1 = -1; load 0 0 -1 = -1; load 0 0 0 = 0; count 0 = 0; load 0 0 1 = 1; load 0 0 11 = 11; load 0 0 12 = 12; count 0 = 12; load 0 0 13 = -1; load 0 0 MIN = -1; load 0 0 MAX = -1; count 0 = 12; load 1 0 13 = -1; load 1 0 -1 = -1; load 1 0 0 = -11; load 1 -1 12 = -11; count 3 = 2");
        Bounds.test(quote, "tape 0 1 3; load 0 0 1 = -12; load 0 0 0 = -12; load 0 -1 1 = -12; load 0 3 1 = -12; load 0 0 13 = -1; image 1; load 1 0 0 = -12; load 1 -1 1 = -12; tape 2 2 3; load 2 0 3 = 3; tape 2 3 3; load 2 0 3 = 3; tape 2 4 3; load 2 0 3 = 3; count 3 = 6");
        for (int sort = 2; sort <= 4; sort++) {
            String row = "tape 0 # 14; put 0 0 1; put 0 1 2; put 0 12 -3; put 0 13 -32768; NEW; rate 0 1 1; TAX 0;".replace("#", "" + sort);
            Bounds.test(quote, row, "load 0 -1 1 = -13; load 0 -1 0 = -13; load 0 0 2 = 2; run 0; got 0 = 1; got 1 = 2; got 2 = 0; load 0 1 1 = 1; run 0; got 0 = 2; got 1 = 0; load 0 12 2 = 2; run 0; got 0 = -3; got 1 = -32768; load 0 13 1 = 1; run 0; slot 0 0 = -32768; load 0 14 1 = -13; load 0 13 2 = -13; load 0 14 0 = 0; count 0 = 0; load 0 15 0 = -13; load 0 2 12 = 12; run 0; got 10 = -3; got 11 = -32768; load 0 3 12 = -13; load 0 MAX 12 = -13; load 0 MIN 12 = -13; load 0 MAX 0 = -13; count 0 = 12; count 3 = 9");
        }
        for (int sort = 3; sort <= 4; sort++) {
            Bounds.test(quote, "NEW; SUM 0; line 7; tape 0 # 3; put 0 0 1000001;".replace("#", "" + sort), "load 0 0 1 = -3; load 0 0 2 = -3; count 0 = 1; run 0; slot 0 0 = 7; load 0 0 0 = 0; put 0 0 1000000; load 0 0 1 = 1; run 0; slot 0 0 = 1000000; put 0 0 -1000000; load 0 0 2 = 2; run 0; slot 0 0 = -1000000; put 0 0 -1000001; load 0 0 1 = -3; count 0 = 2; load 0 1 2 = 2; put 0 2 1000001; load 0 1 2 = -3; load 0 1 3 = -13; load 0 -1 3 = -13; load 0 1 1 = 1; count 3 = 2");
        }
        // A long that would be a line if it were narrowed is none.
        Bounds.test(quote, "line 7; tape 0 4 3; put 0 0 4294967296; load 0 0 1 = -3; put 0 0 4294967297; load 0 0 1 = -3; put 0 0 LMIN; load 0 0 1 = -3; put 0 0 LMAX; load 0 0 1 = -3; count 0 = 1; tape 0 3 1; put 0 0 4294967297; load 0 0 1 = 1; tape 0 2 1; put 0 0 32767; load 0 0 1 = 1; NEW; SUM 0; run 0; slot 0 0 = 32767; put 0 0 32768; load 0 0 1 = 1; run 0; slot 0 0 = -32768");
        Bounds.test(quote, "tape 0 4 0; load 0 0 0 = 0; load 0 0 1 = -13; load 0 1 0 = -13; load 0 -1 0 = -13; line 5; load 0 0 0 = 0; count 0 = 0; count 3 = 3");
    }

    private static void clearAndPut() {
        Bounds.test("TAPE d holds nothing: what it held (0 nothing, 1 .. 5). NONE: no such TAPE.", "clear -1 = -1; clear 6 = -1; clear 0 = 0; tape 0 1 0; clear 0 = 1; clear 0 = 0; tape 0 4 64; put 0 63 9; clear 0 = 4; at 0 63 = ISE; put 0 63 9 = -11; back 0 = -11; tape 0 4 64; at 0 63 = 0; image 0; clear 0 = 5; back 0 = -11; clear 0 = 0; tape 5 2 1; clear 5 = 2; tape 5 3 1; clear 4 = 0; clear 5 = 3; clear MIN = -1; clear MAX = -1; count 3 = 3");
        String put = "Element i of the row on TAPE d becomes v, narrowed to its sort: 1. NONE: no such TAPE; NOTHING; CAST; PLACE.";
        Bounds.test(put, "put -1 0 1 = -1; put 0 0 1 = -11; put 5 0 1 = -11; put 6 0 1 = -1; put MIN 0 1 = -1; put MAX 0 1 = -1; put 0 -1 1 = -11; image 0; put 0 0 1 = -12; put 0 -1 1 = -12; put 0 64 1 = -12; tape 0 1 0; put 0 0 1 = -13; tape 0 1 1; put 0 0 1 = 1; put 0 1 1 = -13; put 0 -1 1 = -13; tape 0 1 64; put 0 62 1 = 1; put 0 63 1 = 1; put 0 64 1 = -13; put 0 MIN 1 = -13; put 0 MAX 1 = -13; count 3 = 12");
        Bounds.test(put, "tape 0 1 1; put 0 0 127; at 0 0 = 127; put 0 0 128; at 0 0 = -128; put 0 0 126; at 0 0 = 126; put 0 0 -128; at 0 0 = -128; put 0 0 -129; at 0 0 = 127; put 0 0 -127; at 0 0 = -127; put 0 0 255; at 0 0 = -1; put 0 0 256; at 0 0 = 0; put 0 0 257; at 0 0 = 1; put 0 0 LMAX; at 0 0 = -1; put 0 0 LMIN; at 0 0 = 0");
        Bounds.test(put, "tape 0 2 1; put 0 0 32767; at 0 0 = 32767; put 0 0 32768; at 0 0 = -32768; put 0 0 32766; at 0 0 = 32766; put 0 0 -32768; at 0 0 = -32768; put 0 0 -32769; at 0 0 = 32767; put 0 0 65535; at 0 0 = -1; put 0 0 65536; at 0 0 = 0; put 0 0 128; at 0 0 = 128; put 0 0 LMAX; at 0 0 = -1; put 0 0 LMIN; at 0 0 = 0");
        Bounds.test(put, "tape 0 3 1; put 0 0 2147483647; at 0 0 = 2147483647; put 0 0 2147483648; at 0 0 = -2147483648; put 0 0 2147483646; at 0 0 = 2147483646; put 0 0 -2147483648; at 0 0 = -2147483648; put 0 0 -2147483649; at 0 0 = 2147483647; put 0 0 4294967295; at 0 0 = -1; put 0 0 4294967296; at 0 0 = 0; put 0 0 65536; at 0 0 = 65536; put 0 0 LMAX; at 0 0 = -1; put 0 0 LMIN; at 0 0 = 0");
        Bounds.test(put, "tape 0 4 2; put 0 0 LMAX; at 0 0 = 9223372036854775807; put 0 0 LMIN; at 0 0 = -9223372036854775808; at 0 1 = 0; put 0 1 4294967296; at 0 1 = 4294967296; put 0 1 -1; at 0 1 = -1; at 0 0 = -9223372036854775808");
    }

    private static void atAndCopy() {
        String at = "Element i of the row on TAPE d. IllegalArgumentException: no such TAPE; IllegalStateException: it holds no row, or that has no such place.";
        Bounds.test(at, "at -1 0 = IAE; at 0 0 = ISE; at 5 0 = ISE; at 6 0 = IAE; at MIN 0 = IAE; at MAX 0 = IAE; at 6 -1 = IAE; image 0; at 0 0 = ISE; at 0 -1 = ISE; tape 0 1 0; at 0 0 = ISE; tape 0 1 1; at 0 -1 = ISE; at 0 0 = 0; at 0 1 = ISE; tape 0 2 64; put 0 63 -9; at 0 62 = 0; at 0 63 = -9; at 0 64 = ISE; at 0 MIN = ISE; at 0 MAX = ISE; clear 0; at 0 0 = ISE; count 3 = 0");
        String copy = "n elements of the row on TAPE d from place i on go to the row on TAPE e from place j on (as they all were before): n. NONE: no such TAPE; NOTHING: of either; CAST: one is no row, or they are of two sorts; PLACE: n, i or j is below 0, or a row has not so many.";
        Bounds.test(copy, "tape 0 3 2; tape 5 3 2; copy -1 0 0 0 1 = -1; copy 0 0 -1 0 1 = -1; copy 6 0 0 0 1 = -1; copy 0 0 6 0 1 = -1; copy MIN 0 0 0 1 = -1; copy 0 0 MAX 0 1 = -1; copy 0 0 5 0 1 = 1; copy 5 0 0 0 1 = 1; copy 0 0 1 0 1 = -11; copy 1 0 0 0 1 = -11; copy 1 0 2 0 1 = -11; copy 6 0 1 0 1 = -1; copy 1 0 6 0 1 = -1; count 3 = 3");
        Bounds.test(copy, "tape 1 1 2; tape 2 2 2; tape 3 3 2; tape 4 4 2; image 5; copy 1 0 2 0 1 = -12; copy 2 0 3 0 1 = -12; copy 3 0 4 0 1 = -12; copy 4 0 1 0 1 = -12; copy 4 0 3 0 1 = -12; copy 5 0 1 0 1 = -12; copy 1 0 5 0 1 = -12; copy 5 0 5 0 1 = -12; copy 5 0 5 0 0 = -12; copy 5 -1 1 0 1 = -12; copy 5 0 0 0 0 = -11; copy 0 0 5 0 0 = -11; copy 1 0 1 1 1 = 1; copy 4 0 4 1 1 = 1; count 3 = 12");
        String rows = "tape 0 4 4; tape 1 4 3; put 0 0 10; put 0 1 11; put 0 2 12; put 0 3 LMIN;";
        Bounds.test(copy, rows, "copy 0 0 1 0 -1 = -13; copy 0 0 1 0 0 = 0; copy 0 0 1 0 1 = 1; at 1 0 = 10; at 1 1 = 0; copy 0 0 1 0 2 = 2; copy 0 0 1 0 3 = 3; at 1 2 = 12; copy 0 0 1 0 4 = -13; copy 0 1 1 0 3 = 3; at 1 0 = 11; at 1 2 = -9223372036854775808; copy 0 2 1 0 3 = -13; copy 0 2 1 0 2 = 2; at 1 0 = 12; at 1 2 = -9223372036854775808; copy 0 3 1 2 1 = 1; copy 0 4 1 0 0 = 0; copy 0 4 1 3 0 = 0; copy 0 5 1 0 0 = -13; copy 0 0 1 4 0 = -13; copy 0 4 1 0 1 = -13; copy 0 0 1 3 1 = -13; copy 0 0 1 1 3 = -13; copy 1 0 0 1 3 = 3; copy 1 0 0 2 3 = -13");
        Bounds.test(copy, rows, "copy 0 -1 1 0 1 = -13; copy 0 0 1 -1 1 = -13; copy 0 -1 1 0 0 = -13; copy 0 0 1 -1 0 = -13; copy 0 MIN 1 0 1 = -13; copy 0 MAX 1 0 1 = -13; copy 0 0 1 MIN 1 = -13; copy 0 0 1 MAX 1 = -13; copy 0 0 1 0 MIN = -13; copy 0 0 1 0 MAX = -13; copy 0 MAX 1 0 MAX = -13; copy 0 1 1 1 MAX = -13; count 3 = 12; at 1 0 = 0; tape 2 4 0; copy 2 0 2 0 0 = 0; copy 2 0 2 0 1 = -13; copy 2 1 2 0 0 = -13; copy 0 0 2 0 0 = 0; copy 0 0 2 0 1 = -13");
        Bounds.test(copy, rows, "copy 0 0 0 1 3 = 3; at 0 0 = 10; at 0 1 = 10; at 0 2 = 11; at 0 3 = 12; copy 0 1 0 0 3 = 3; at 0 0 = 10; at 0 1 = 11; at 0 2 = 12; at 0 3 = 12; copy 0 0 0 0 4 = 4; at 0 3 = 12; copy 0 0 0 2 2 = 2; at 0 2 = 10; at 0 3 = 11");
        for (int sort = 1; sort <= 4; sort++) {
            Bounds.test(copy, "tape 0 # 64; tape 1 # 64; put 0 0 -1; put 0 63 1; copy 0 0 1 0 64 = 64; at 1 0 = -1; at 1 63 = 1; copy 0 0 1 0 65 = -13; copy 0 1 1 0 64 = -13; copy 0 63 1 0 1 = 1; at 1 0 = 1; copy 0 64 1 0 1 = -13; copy 0 64 1 64 0 = 0; copy 0 0 0 1 63 = 63; at 0 1 = -1; at 0 63 = 0; at 0 2 = 0".replace("#", "" + sort));
        }
    }

    private static void count() {
        String quote = "0 LINES, 1 PROGRAMS, 2 LEAKS (of RUNS by run() and years() that didn't fail), 3 refusals of the host's (-11 to -15) since begin(); 10 + k: ACTS of PROGRAM k; 20 + k: WEIGHTS of SET k. NONE for another what.";
        Bounds.test(quote, "count MIN = -1; count -1 = -1; count 0 = 0; count 1 = 0; count 2 = 0; count 3 = 0; count 4 = -1; count 9 = -1; count 10 = -1; count 13 = -1; count 14 = -1; count 19 = -1; count 20 = 2; count 23 = 2; count 24 = -1; count MAX = -1; NEW; count 10 = 0; count 11 = -1; NEW; NEW; NEW; count 13 = 0; count 14 = -1", Script.times(20, "SUM 0"), "count 13 = 20; count 12 = 0; count 1 = 4", Script.times(12, "line 1"), "count 0 = 12; weight 3 -1; count 23 = 0; count 22 = 2", Script.times(8, "weight 3 1"), "count 23 = 8");
        Bounds.test(quote, LEAKING, "least 0 5 -1 0 9 = 0; order 0 = HOLDS; mend 0 5 0 9 = -3; count 2 = 0; run 0; count 2 = 1; years 0 40 = 40; count 2 = 41; SUM 2; RATE 2 2 0; SPLIT 2; run 0 = -5; count 2 = 41; years 0 5 = 0; count 2 = 41; begin; count 2 = 0");
        Bounds.test(quote, "put 0 0 1 = -11; count 3 = 1; image 0; put 0 0 1 = -12; count 3 = 2; tape 0 1 1; put 0 1 1 = -13; count 3 = 3; tape 0 1 -1 = -14; count 3 = 4; image 0; toss 0 = -15; count 3 = 5; put 6 0 0 = -1; tape 0 5 0 = -1; load 0 0 13 = -1; at 1 0 = ISE; at 6 0 = IAE; run 0 = -1; program; program; program; program; program = -2; image 1; begin; count 3 = 0; back 1 = -3; account 8 = IAE; count 3 = 0; put 2 0 1 = -11; count 3 = 1");
        // Failing runs are no refusals of the host's.
        Bounds.test(quote, "rate 0 1 2; rate 1 10000 1; line 1; NEW; SUM 0; RATE 0 0 0; BOOK 0; run 0 = -5; NEW; CAP 0 1 1000000; RATE 0 0 1; RATE 0 0 1; run 1 = -6; count 3 = 0; count 2 = 0");
    }

    /** As many calls as an object is used for, all of one kind that counts up. */
    private static void fullUse() {
        String quote = "An object is used for at most 512 calls after it has been made;";
        Bounds.test(quote, Script.times(511, "put 0 0 0 = -11"), "count 3 = 511");
        Bounds.test(quote, "NEW; SHOW 0; BOOK 0; CAP 1 1 1000000; BOOK 1 3", Script.times(16, "BOOK 0"), "count 10 = 20", Script.times(480, "years 0 40 = 40"), "account 3 = 19200000000; count 2 = 326400; image 0; toss 0 = 326400");
        Bounds.test(quote, Script.times(510, "rounded # 2 1 4"), "rounded 7 2 1 4 = 3; failed = -2");
    }
}
