/** The boundary cases of Terms IV and V: laws, runs by doubles, orders, drifts, mends. */
final class SearchBounds {
    private static final String HALF = "rate 0 1 2;";

    private SearchBounds() {
    }

    static void all() {
        closeAndMirror();
        same();
        share();
        failAndLeak();
        floats();
        exactDoubles();
        roundingByDoubles();
        splitByDoubles();
        castsByDoubles();
        keptByDoubles();
        orders();
        drifts();
        mends();
    }

    private static void closeAndMirror() {
        Bounds.test("LAWS for a PROGRAM and one amount a, as a BILL of one LINE a, with all ACCOUNTS and CARRIED 0 ahead: it BREAKS:",
            HALF, "NEW; SUM 0; RATE 0 0 0; CARRY 0; BOOK 0; line 7; run 0 = 4; account 0 = 3; carried 0 0 = 1; least 0 0 -1 0 9 = 2; least 0 0 -1 0 1 = HOLDS; least 0 0 -1 0 0 = HOLDS; least 0 0 -1 -9 9 = -9; line 9; least 0 0 -1 0 9 = 2; bare; least 0 0 -1 0 9 = 2; account 0 = 3; carried 0 0 = 1");
        // An order of more lines that was tried ahead leaves nothing behind.
        Bounds.test("LAWS for a PROGRAM and one amount a, as a BILL of one LINE a, with all ACCOUNTS and CARRIED 0 ahead: it BREAKS:", "NEW; SUM 0; BOOK 0; line 3; line 4; line 5; order 0 = HOLDS; least 0 0 -1 0 0 = HOLDS; least 0 0 -1 -12 -3 = -12; mend 0 0 0 0 = HOLDS; least 0 1 -1 -9 9 = HOLDS; least 0 2 0 -9 9 = HOLDS; least 0 6 -1 -9 9 = HOLDS");
        String close = "0 CLOSE if the RUN doesn't fail and the ACCOUNTS added aren't 0;";
        Bounds.test(close, "NEW; SUM 0; BOOK 0; CAP 0 0 5; BOOK 0 7 1; least 0 0 -1 -9 5 = HOLDS; least 0 0 -1 -9 6 = 6; least 0 0 -1 5 5 = HOLDS; least 0 0 -1 6 6 = 6; least 0 0 -1 7 9 = 7");
        for (int k = 0; k < 8; k++) {
            Bounds.test(close, "NEW; SUM 0; BOOK 0 #; least 0 0 -1 0 0 = HOLDS; least 0 0 -1 0 1 = 1; least 0 0 -1 -1 1 = -1; BOOK 0 3 1; least 0 0 -1 -9 9 = HOLDS".replace("#", "" + k));
        }
        Bounds.test(close, HALF, "NEW; SUM 0; BOOK 0; RATE 1 0 0; SPLIT 1; least 0 0 -1 1 1 = HOLDS; least 0 0 -1 0 1 = HOLDS; least 0 0 -1 1 2 = 2; least 0 0 -1 -1 1 = HOLDS; least 0 0 -1 -3 9 = -2");
        String mirror = "1 MIRROR if one of the RUNS with a and with -a fails and the other doesn't, or neither does and some ACCOUNT isn't the other's negative;";
        Bounds.test(mirror, "NEW; SUM 0; CAP 0 0 5; BOOK 0 7; least 0 1 -1 -5 5 = HOLDS; least 0 1 -1 0 9 = 6; least 0 1 -1 -6 -6 = -6; least 0 1 -1 -6 5 = -6; least 0 1 -1 0 0 = HOLDS; least 0 1 -1 1000000 1000000 = 1000000; least 0 1 -1 -1000000 -1000000 = -1000000",
            "NEW; SUM 0; BOOK 0; least 1 1 -1 999000 1000000 = HOLDS; least 1 1 -1 -1000000 -999000 = HOLDS; CAP 1 1 1; BOOK 1 7; least 1 1 -1 0 0 = 0; least 1 1 -1 1000000 1000000 = 1000000");
        Bounds.test(mirror, HALF, "NEW; SUM 0; RATE 0 0 0; CAP 0 1 0; SPLIT 0; least 0 1 -1 0 9 = 1; least 0 1 -1 -1 -1 = -1; least 0 1 -1 1 1 = 1; least 0 1 -1 2 2 = HOLDS; least 0 1 -1 -2 -2 = HOLDS; least 0 1 -1 0 0 = HOLDS; NEW; SUM 0; BOOK 0; CAP 0 1 0; BOOK 0 1; SUM 0; RATE 0 0 0; SPLIT 0; least 1 1 -1 1 1 = HOLDS; least 1 1 -1 1 2 = 2; least 1 1 -1 -1 1 = HOLDS");
    }

    private static void same() {
        String quote = "2 SAME as an other PROGRAM likewise (fails, or some ACCOUNT isn't the same);";
        Bounds.test(quote, HALF, "NEW; SUM 0; BOOK 0 7; NEW; SUM 0; CAP 0 0 5; BOOK 0 7; least 0 2 1 -9 5 = HOLDS; least 0 2 1 -9 9 = 6; least 1 2 0 -9 9 = 6; least 1 2 0 5 5 = HOLDS; least 1 2 0 6 6 = 6; least 0 2 0 -9 9 = HOLDS; least 1 2 1 -9 9 = HOLDS",
            "NEW; SUM 0; BOOK 0 7; RATE 1 0 0; SPLIT 1; least 0 2 2 0 9 = 1; least 2 2 0 0 9 = 1; least 2 2 0 2 2 = HOLDS; least 2 2 0 0 0 = HOLDS; least 2 2 2 0 9 = HOLDS; NEW; SUM 0; BOOK 0 6; RATE 1 0 0; BOOK 1; least 2 2 3 1 1 = HOLDS; least 2 2 3 -1 -1 = HOLDS; least 2 2 3 1 9 = 2; least 3 2 2 0 0 = HOLDS");
        // Neither leaks nor what is carried count, and an empty program is as good as any other.
        Bounds.test(quote, HALF, "NEW; SUM 0; BOOK 0; NEW; SUM 0; SHOW 0 0; BOOK 0; SUM 1; RATE 1 1 0; CARRY 1; least 0 2 1 -9 9 = HOLDS; NEW; least 0 2 2 0 9 = 1; least 2 2 0 -9 9 = -9; least 0 2 2 0 0 = HOLDS; least 2 2 2 -9 9 = HOLDS");
    }

    private static String weights(int... weights) {
        StringBuilder text = new StringBuilder("weight 0 -1;");
        for (int w : weights) {
            text.append("weight 0 " + w + ";");
        }
        return text.toString();
    }

    private static void share() {
        String quote = "3 SHARE if the RUN doesn't fail, SPLIT something, and some PART of the last SPLIT is 1 or more away from its SHARE;";
        String last = "NEW; SUM 0; SPLIT 0 2 0; least 0 3 -1 2 2 = #; least 0 3 -1 -2 -2 = -#;";
        // Of 2 the parts are 1, 1, 0; the last share is 0.998, 1, or 1.002 (then with parts 0, 0, 2).
        Bounds.test(quote, weights(501, 501, 998), last.replace("-#", "#").replace("#", "HOLDS"));
        Bounds.test(quote, weights(500, 500, 1000), last.replace("#", "2"));
        Bounds.test(quote, weights(499, 499, 1000), last.replace("-#", "#").replace("#", "HOLDS"));
        Bounds.test(quote, weights(1, 1, 1, 1, 1, 1, 1, 1), last.replace("#", "2"), "least 0 3 -1 -1 1 = HOLDS; least 0 3 -1 -1 9 = 2; least 0 3 -1 -2 1 = -2; least 0 3 -1 7 9 = HOLDS; least 0 3 -1 7 10 = 10; least 0 3 -1 8 8 = HOLDS; set 0 1 0 0; least 0 3 -1 -99 99 = HOLDS; set 0 1 1 0; least 0 3 -1 -99 99 = HOLDS");
        Bounds.test(quote, "NEW; SUM 0; SPLIT 0 0 0; NEW; SUM 0; least 0 3 -1 8 9 = HOLDS; least 1 3 -1 8 9 = HOLDS; least 1 3 -1 -9 9 = HOLDS");
        String first = last.replace("SPLIT 0 2 0", "SPLIT 0 3 0");
        Bounds.test(quote, weights(998, 501, 501), first.replace("-#", "#").replace("#", "HOLDS"));
        Bounds.test(quote, weights(1000, 500, 500), first.replace("#", "2"));
        Bounds.test(quote, weights(1, 1, 0), "NEW; SUM 0; SPLIT 0 2 0; least 0 3 -1 0 9 = 1; least 0 3 -1 -1 -1 = -1; least 0 3 -1 2 2 = HOLDS; least 0 3 -1 0 0 = HOLDS; NEW; SUM 0; least 1 3 -1 -9 9 = HOLDS");
        Bounds.test(quote, weights(1, 1, 0), HALF, "NEW; SUM 0; SPLIT 0 2 0; SPLIT 0 2 1; least 0 3 -1 -9 9 = HOLDS; SPLIT 0 2 0; least 0 3 -1 0 9 = 1; RATE 1 0 0; SPLIT 1 0 0; least 0 3 -1 -9 9 = HOLDS");
        Bounds.test(quote, weights(1, 1, 0), HALF, "NEW; SUM 0; SPLIT 0 2 0; RATE 1 0 0; BOOK 1; least 0 3 -1 1 1 = HOLDS; least 0 3 -1 -1 9 = HOLDS; NEW; SUM 0; SPLIT 0 2 0; SUM 0; RATE 0 0 0; least 1 3 -1 0 9 = 1");
    }

    private static void failAndLeak() {
        String fail = "4 FAIL if the RUN fails;";
        Bounds.test(fail, "rate 0 10000 1; NEW; SUM 0; RATE 0 0 0; RATE 0 0 0; least 0 4 -1 10000 10995 = HOLDS; least 0 4 -1 10995 10996 = 10996; least 0 4 -1 -10995 -10000 = HOLDS; least 0 4 -1 -10997 -10000 = -10997;",
            "least 0 4 -1 -10996 -10000 = -10996; NEW; least 1 4 -1 -1000 1000 = HOLDS");
        Bounds.test(fail, "rate 0 1 1000; NEW; SUM 0; RATE 0 0 0; BOOK 0; least 0 4 -1 0 0 = HOLDS; least 0 4 -1 0 9 = 1; least 0 4 -1 999 999 = 999; least 0 4 -1 1000 1000 = HOLDS; least 0 4 -1 1000 1002 = 1001; least 0 4 -1 -1000 0 = -999; count 2 = 0; failed = -2; account 0 = 0");
        String leak = "5 LEAK if there is one (the RUN not failing);";
        Bounds.test(leak, HALF, "NEW; SUM 0; BOOK 0; SHOW 1 0; least 0 5 -1 -9 9 = HOLDS; BOOK 1; least 0 5 -1 -9 9 = -9; least 0 5 -1 0 0 = 0; RATE 2 0 0; SPLIT 2; least 0 5 -1 1 1 = HOLDS; least 0 5 -1 -9 9 = -8; BOOK 1; least 0 5 -1 0 9 = 0; count 2 = 0; run 0 = 7; count 2 = 2; least 0 5 -1 1 1 = HOLDS; NEW; SUM 0; BOOK 0; least 1 5 -1 -9 9 = HOLDS; count 2 = 2");
    }

    private static void floats() {
        // 0.07 times 100 is 7.000000000000001, times 150 is 10.500000000000002.
        Bounds.test("6 FLOAT if the RUN doesn't fail and some ACCOUNT isn't as in a RUN by doubles.",
            "rate 0 7 100; NEW; TAX 0 0 5; BOOK 0 7; least 0 6 -1 0 99 = HOLDS; least 0 6 -1 0 100 = 100; least 0 6 -1 101 101 = HOLDS; least 0 6 -1 -100 99 = HOLDS; BOOK 1 0; SUM 1; rate 1 1 1000; RATE 1 1 1; SPLIT 1; least 0 6 -1 100 100 = HOLDS; least 0 6 -1 0 2000 = HOLDS; rate 1 1 1; least 0 6 -1 0 100 = 100");
        String quote = "A RUN by doubles: SLOTS, RESULTS, CARRIED are doubles, LINES turned to them; RATE is (double) p divided by (double) q; sums are made in order from 0.0.";
        Bounds.test(quote, "rate 0 7 100; NEW; TAX 0 0 1; BOOK 0; least 0 6 -1 0 149 = HOLDS; least 0 6 -1 149 151 = 150; least 0 6 -1 -150 -150 = -150; least 0 6 -1 -149 149 = HOLDS; NEW; FLOW 0 0 1; BOOK 0; least 1 6 -1 0 300 = 150; NEW; SUM 0; RATE 0 0 0; ROUND 0 1 1; BOOK 0; least 2 6 -1 0 300 = 150; NEW; SUM 0; RATE 0 0 0; SHOW 1 0 1; BOOK 1; least 3 6 -1 0 300 = 150");
        Bounds.test(quote, "rate 0 10000 1; NEW; TAX 0; BOOK 0; SUM 1; BOOK 1 7 1; least 0 6 -1 999000 1000000 = HOLDS; least 0 6 -1 -1000000 -999000 = HOLDS; rate 0 9999 1000; least 0 6 -1 0 0 = HOLDS");
    }

    /** Programs whose doubles are all exact: then nothing may differ, whatever ran ahead. */
    private static void exactDoubles() {
        String quote = "A RUN by doubles: SLOTS, RESULTS, CARRIED are doubles, LINES turned to them; RATE is (double) p divided by (double) q; sums are made in order from 0.0.";
        String holds = "least 0 6 -1 -20 20 = HOLDS; least 0 6 -1 999900 1000000 = HOLDS; least 0 6 -1 -1000000 -999900 = HOLDS";
        Bounds.test(quote, "NEW; PART 0; BOOK 0; SUM 1; SPLIT 1;", holds);
        Bounds.test(quote, "NEW; SUM 1; ADD 0 1; ADD 7 1; BOOK 0; BOOK 7 7; SUM 0; SUM 7;", holds);
        Bounds.test(quote, "NEW; SUM 0; SPLIT 0; ADD 0 0; ADD 0 0 1; PART 2 0; BOOK 2; BOOK 0 1; SUM 0; SPLIT 0; BOOK 0 7; BOOK 0 6 1; BOOK 0 2;", holds);
        Bounds.test(quote, HALF, "NEW; SUM 0; RATE 0 0 0; CARRY 0; BOOK 0; SUM 1; RATE 1 1 0; CARRY 1; BOOK 1 1; SUM 2; ADD 2 0 1; RATE 2 2 0; CARRY 2; BOOK 2 2;", holds);
        for (int days = 1; days <= 30; days += days < 2 ? 1 : 14) {
            Bounds.test(quote, "rate 0 1 1; rate 1 1 2; rate 2 0 1; NEW; SUM 0; DAYS 0 1 #; BOOK 0; SUM 1; DAYS 1 2 #; BOOK 1 1;".replace("#", "" + days), "least 0 6 -1 -9 9 = HOLDS; set 0 1 0 #; least 0 6 -1 -9 9 = HOLDS".replace("#", "" + days));
        }
        for (int mode = 0; mode < 6; mode++) {
            Bounds.test(quote, "rate 0 1 4; NEW; TAX 0 0 #; BOOK 0; SUM 1; RATE 1 1 0; SHOW 2 1 #; BOOK 2 1; ROUND 1 # 2; BOOK 1 2; FLOW 3 0 #; BOOK 3 3;".replace("#", "" + mode), holds);
        }
        Bounds.test(quote, HALF, "NEW; SUM 0; RATE 0 0 0; CAP 0 0 3; CAP 0 1 2; RATE 0 0 1; BOOK 0; rate 1 2 1; SUM 1; CAP 1 0 5; BOOK 1 1; SUM 2; CAP 2 1 5; BOOK 2 2;", holds);
    }

    /** What a mode answers at an a whose exact amount is whole but whose double is a hair beside it. */
    private static void hair(String quote, int mode, String beyond, String short1) {
        String text = "rate 0 7 100; rate 1 1 49; rate 2 49 1; NEW; SUM 0; RATE 0 0 0; ROUND 0 M 1; BOOK 0; NEW; SUM 0; RATE 0 0 1; RATE 0 0 2; ROUND 0 M 1; BOOK 0; NEW; TAX 0 0 M; BOOK 0;".replace(" M", " " + mode);
        String[] b = beyond.split(" ");
        String[] s = short1.split(" ");
        Bounds.test(quote, text, "least 0 6 -1 100 100 = " + b[0] + "; least 0 6 -1 -100 -100 = " + b[1] + "; least 2 6 -1 100 100 = " + b[0] + "; least 2 6 -1 -100 -100 = " + b[1],
            "least 1 6 -1 1 1 = " + s[0] + "; least 1 6 -1 -1 -1 = " + s[1] + "; least 0 6 -1 0 0 = HOLDS; least 1 6 -1 0 0 = HOLDS; least 0 6 -1 -9 9 = HOLDS; least 0 6 -1 99 99 = HOLDS; least 0 6 -1 101 101 = HOLDS");
    }

    private static void roundingByDoubles() {
        hair("ROUNDING of x to a multiple of m: y is x divided by m; MODE 4 Math.floor(y),", 4, "HOLDS -100", "1 HOLDS");
        hair("5 Math.ceil(y),", 5, "100 HOLDS", "HOLDS -1");
        hair("2 floor if y is above 0.0 else ceil,", 2, "HOLDS HOLDS", "1 -1");
        hair("3 ceil if y is above 0.0 else floor,", 3, "100 -100", "HOLDS HOLDS");
        hair("1 Math.rint(y),", 1, "HOLDS HOLDS", "HOLDS HOLDS");
        hair("0 Math.floor(y + 0.5) if y isn't below 0.0, else Math.ceil(y - 0.5); times m.", 0, "HOLDS HOLDS", "HOLDS HOLDS");
        // 1 / 2 as 0.49999999999999994, to which 0.5 added is 1.0; 5 / 2 as 2.4999999999999996; 21 / 2 as 10.500000000000002.
        String middle = "rate 1 1 49; rate 2 49 1; rate 3 1 2; rate 4 5 2; NEW; SUM 0; RATE 0 0 1; RATE 0 0 2; RATE 0 0 3; ROUND 0 # 1; BOOK 0; NEW; SUM 0; RATE 0 0 1; RATE 0 0 2; RATE 0 0 4; ROUND 0 # 1; BOOK 0; rate 0 7 100; NEW; TAX 0 0 #; BOOK 0;";
        Bounds.test("0 Math.floor(y + 0.5) if y isn't below 0.0, else Math.ceil(y - 0.5); times m.", middle.replace("#", "0"), "least 0 6 -1 1 1 = HOLDS; least 0 6 -1 -1 -1 = HOLDS; least 1 6 -1 1 1 = 1; least 1 6 -1 -1 -1 = -1; least 2 6 -1 150 150 = HOLDS; least 2 6 -1 -150 -150 = HOLDS");
        Bounds.test("1 Math.rint(y),", middle.replace("#", "1"), "least 0 6 -1 1 1 = HOLDS; least 0 6 -1 -1 -1 = HOLDS; least 1 6 -1 1 1 = HOLDS; least 1 6 -1 -1 -1 = HOLDS; least 2 6 -1 150 150 = 150; least 2 6 -1 -150 -150 = -150");
        // 300 times 0.07 is 21.000000000000004; a third of that is still above 7, a hundredth of it is as good as 0.21.
        Bounds.test("ROUNDING of x to a multiple of m: y is x divided by m; MODE 4 Math.floor(y),", "rate 0 7 100; NEW; SUM 0; RATE 0 0 0; ROUND 0 5 3; BOOK 0; least 0 6 -1 300 300 = 300; set 0 2 4 3; least 0 6 -1 300 300 = HOLDS; least 0 6 -1 -300 -300 = -300; set 0 2 5 100; least 0 6 -1 300 300 = HOLDS; set 0 2 0 100; least 0 6 -1 0 2000 = HOLDS");
    }

    /** A slot that is 0 exactly, but 2^-53 (slot 0) or -2^-53 (slot 1) as a double, times 8192 four times, then three times. */
    private static String gap(int s) {
        String ends = s == 0 ? "ADD 0 1 1;" : "ADD 1 0 1;";
        return "rate 0 1 49; rate 1 49 1; rate 2 8192 1; NEW; SUM 1; RATE 1 1 0; RATE 1 1 1; SUM 0;" + ends + "RATE @ @ 2; RATE @ @ 2; RATE @ @ 2; RATE @ @ 2; ADD 4 @; RATE @ @ 2; RATE @ @ 2; RATE @ @ 2;".replace("@", "" + s);
    }

    private static void splitByDoubles() {
        String quote = "SPLIT works with the SLOT turned to long by a cast (if that is above 2^40 or below -2^40, with 0), exactly as in III, its PARTS turned to doubles;";
        for (int s = 0; s < 2; s++) {
            // 2^38 times 4, then 1 more, 1 less, and 0.5 more; 1 is split to 1, 0 and -1 to 0, -1.
            String head = gap(s) + "rate 3 4 1; RATE @ @ 3;".replace("@", "" + s);
            String tail = "SPLIT @ 0 0; PART 3 #; BOOK 3; least 0 6 -1 1 1 = ".replace("@", "" + s).replace("#", "" + (1 - s));
            String more = "CAP 2 1 1; ADD " + s + " 2 " + s + ";";
            String less = "CAP 2 1 1; ADD " + s + " 2 " + (1 - s) + ";";
            Bounds.test(quote, head, tail + "1");
            Bounds.test(quote, head, more, tail + "HOLDS");
            Bounds.test(quote, head, less, tail + "1");
            Bounds.test(quote, head, "ADD " + s + " 4;", tail + "1");
            Bounds.test(quote, head.replace("rate 3 4 1", "rate 3 10000 1"), tail + "HOLDS");
        }
        Bounds.test(quote, "rate 0 1 49; rate 1 49 1; NEW; SUM 0; RATE 0 0 0; RATE 0 0 1; SPLIT 0 0 0; PART 1 0; BOOK 1; PART 1 1; BOOK 1 1; least 0 6 -1 1 1 = 1; least 0 6 -1 -1 -1 = -1; least 0 6 -1 2 2 = 2; least 0 6 -1 0 0 = HOLDS");
    }

    private static void castsByDoubles() {
        String hair = "rate 0 1 49; rate 1 49 1; rate 2 7 100; NEW; SUM 0; RATE 0 0 0; RATE 0 0 1; # 0; BOOK 0; NEW; SUM 0; RATE 0 0 2; # 0; BOOK 0;";
        Bounds.test("CARRY by Math.floor;", hair.replace("#", "CARRY"), "least 0 6 -1 1 1 = 1; least 0 6 -1 -1 -1 = HOLDS; least 0 6 -1 0 0 = HOLDS; least 1 6 -1 100 100 = HOLDS; least 1 6 -1 -100 -100 = -100");
        // What is left over is carried: 0.9999999999999999 and then 1 less 0.9999999999999999 come to 1.
        Bounds.test("CARRY by Math.floor;", "rate 0 1 49; rate 1 49 1; NEW; SUM 0; RATE 0 0 0; RATE 0 0 1; SUM 1; ADD 1 0 1; CARRY 0; CARRY 1; BOOK 1 7; least 0 6 -1 1 1 = 1; BOOK 0 7; least 0 6 -1 1 1 = HOLDS");
        Bounds.test("BOOK adds the SLOT turned to long by a cast.", hair.replace("# 0;", ""), "least 0 6 -1 1 1 = 1; least 0 6 -1 -1 -1 = -1; least 0 6 -1 0 0 = HOLDS; least 1 6 -1 100 100 = HOLDS; least 1 6 -1 -100 -100 = HOLDS");
    }

    private static void keptByDoubles() {
        String quote = "Behind each ACT (of DAYS each time) SLOT s is kept within -2^50 .. 2^50 (1125899906842624.0; at these ends).";
        for (int s = 0; s < 2; s++) {
            // 2^50 either way, which slot 5 keeps: one less and one more is 2^50 again, one more and one less is not.
            String head = gap(s).replace("ADD 4 " + s + ";", "") + "rate 3 4096 1; RATE @ @ 3; ADD 5 @; CAP 2 1 1;".replace("@", "" + s);
            String more = "ADD " + s + " 2 " + s + ";";
            String less = "ADD " + s + " 2 " + (1 - s) + ";";
            String tail = "ADD @ 5 1; BOOK @; least 0 6 -1 1 1 = ".replace("@", "" + s);
            Bounds.test(quote, head, less, more, tail + "HOLDS");
            Bounds.test(quote, head, more, less, tail + "1");
            Bounds.test(quote, head, more, tail + "1");
            Bounds.test(quote, head, less, tail + "HOLDS");
            String days = "rate 4 1 1; DAYS @ 4 #;".replace("@", "" + s);
            Bounds.test(quote, head.replace("4096", "2048"), days.replace("#", "1"), "ADD 6 # 1;".replace("#", "" + s), "ADD 6 5 0; ADD 6 5 0; BOOK 6; least 0 6 -1 1 1 = HOLDS");
            Bounds.test(quote, head, days.replace("#", "1"), tail + "HOLDS");
            Bounds.test(quote, head, days.replace("#", "30"), tail + "HOLDS");
            // A gain beyond every long.
            Bounds.test(quote, head, days.replace("#", "1").replace("rate 4 1 1", "rate 4 10000 1"), tail + "HOLDS");
        }
        Bounds.test("Nothing fails.", "rate 0 1 49; rate 1 49 1; NEW; SUM 0; RATE 0 0 0; RATE 0 0 1; BOOK 0; SUM 1; BOOK 1 1; least 0 6 -1 1 1 = 1; set 0 3 7 0; NEW; SUM 0; RATE 0 0 0; RATE 0 0 1; SPLIT 0; SUM 1; BOOK 1 1; least 1 6 -1 -9 9 = HOLDS");
    }

    private static void orders() {
        String quote = "ORDER of a PROGRAM with the BILL (6 LINES at most): the orders of its LINES are gone through by the first place, then the second .. (of the LINES' numbers, rising; the BILL's own is the first, 0), each from ACCOUNTS and CARRIED 0;";
        String flow = HALF + "NEW; FLOW 0 0 4;";
        Bounds.test(quote, flow, "order 0 = HOLDS; line 1; order 0 = HOLDS; line 1; order 0 = 1; line 1; order 0 = 1; line 1; order 0 = 1; line 1; order 0 = 1; line 1; order 0 = 1; count 0 = 6; line 1; order 0 = -2; order 1 = -1; bare; order 0 = HOLDS");
        Bounds.test(quote, flow, "line 2; line 2; line 2; line 2; line 2; line 2; order 0 = HOLDS; line 2; order 0 = -2; line 2; order 0 = -2; bare; line 2; line 2; line 2; line 2; line 2; order 0 = HOLDS");
        // Two odd lines: the one that comes first gets the smaller half, so the second must come ahead of the first.
        Bounds.test(quote, flow, "line 1; line 1; order 0 = 1; bare; line 1; line 2; line 1; order 0 = 3; bare; line 1; line 1; line 2; order 0 = 2; bare; line 2; line 1; line 1; order 0 = 1; bare; line 1; line 2; line 2; order 0 = HOLDS; bare; line 1; line 2; line 2; line 1; order 0 = 9; bare; line 1; line 1; line 2; line 2; order 0 = 6; bare; line 2; line 1; line 1; line 2; order 0 = 2; bare; line 2; line 2; line 1; line 1; order 0 = 1");
        Bounds.test(quote, flow, "line 1; line 2; line 2; line 2; line 2; line 1; order 0 = 153; bare; line 1; line 1; line 2; line 2; line 2; line 2; order 0 = 120; bare; line 1; line 2; line 2; line 2; line 1; order 0 = 33");
        Bounds.test(quote, HALF, "NEW; SUM 0; RATE 0 0 0; CARRY 0; BOOK 0; line 1; line 2; order 0 = HOLDS; run 0 = 4; carried 0 0 = 1; account 0 = 1; order 0 = HOLDS; carried 0 0 = 1; account 0 = 1; NEW; FLOW 0 0 4; CARRY 0; BOOK 0; order 1 = HOLDS; line 1; order 1 = 3");
        String matters = "it MATTERS at the first order in which the RUN fails when it didn't at first (or the other way), or some ACCOUNT is other, or some LINE (by its number) has another RESULT.";
        Bounds.test(matters, flow, "TAX 1 0 4; line 1; line 1; order 0 = HOLDS; FLOW 0 0 4; order 0 = 1; NEW; SUM 0; RATE 0 0 0; BOOK 0; order 1 = HOLDS; line 1; order 1 = HOLDS; NEW; order 2 = HOLDS; NEW; FLOW 0 0 4; SUM 1; RATE 1 1 0; BOOK 1; order 3 = 1; bare; line 1; line 2; order 3 = HOLDS");
        // Both get the same by their numbers, whichever place they have.
        Bounds.test(matters, flow, "line 1; line 2; order 0 = HOLDS; bare; line 3; line -3; order 0 = 1; set 0 0 0 2; order 0 = HOLDS; set 0 0 0 0; order 0 = HOLDS");
    }

    private static void drifts() {
        String quote = "DRIFT of a RATE (q 100 at most), a MODE, n LINES (1 .. 12) from 0 to M (0 .. 1000): the sum of (each LINE times RATE, ROUNDED to a UNIT) less (the sum of LINES times RATE, ROUNDED): the greatest and the least there are.";
        Bounds.test(quote, "rate 0 1 99; drift 0 5 12 1 0 = 11; rate 0 1 100; drift 0 5 12 1 0 = 11; rate 0 1 101; drift 0 5 12 1 0 = IAE; rate 0 1 1000; drift 0 5 12 1 0 = IAE; rate 0 101 101; drift 0 5 12 1 0 = IAE; rate 0 10000 100; drift 0 5 12 1000 0 = 0; drift 0 5 12 1000 1 = 0; rate 0 10000 1; drift 0 4 12 1000 1 = 0; rate 0 0 1; drift 0 3 12 1000 0 = 0; rate 0 0 100; drift 0 3 12 1000 0 = 0");
        Bounds.test(quote, "rate 0 1 2; drift 0 -1 2 1 0 = IAE; drift 0 0 2 1 0 = 1; drift 0 1 2 1 0 = 0; drift 0 4 2 1 0 = 0; drift 0 5 2 1 0 = 1; drift 0 6 2 1 0 = IAE; drift 0 MIN 2 1 0 = IAE; drift 0 MAX 2 1 0 = IAE; drift 0 1 2 1 1 = -1; drift 0 2 2 1 1 = -1; drift 0 3 2 1 0 = 1; drift 0 4 2 1 1 = -1");
        Bounds.test(quote, "rate 0 1 2; drift 0 4 0 1 1 = IAE; drift 0 4 1 1 1 = 0; drift 0 4 1 1000 1 = 0; drift 0 4 2 1 1 = -1; drift 0 4 3 1 1 = -1; drift 0 4 4 1 1 = -2; drift 0 4 11 1 1 = -5; drift 0 4 12 1 1 = -6; drift 0 4 13 1 1 = IAE; drift 0 4 -1 1 1 = IAE; drift 0 4 MIN 1 1 = IAE; drift 0 4 MAX 1 1 = IAE");
        Bounds.test(quote, "rate 0 1 100; drift 0 4 2 -1 1 = IAE; drift 0 4 2 0 1 = 0; drift 0 4 2 1 1 = 0; drift 0 4 2 49 1 = 0; drift 0 4 2 50 1 = -1; drift 0 4 12 8 1 = 0; drift 0 4 12 9 1 = -1; drift 0 4 2 999 1 = -1; drift 0 4 2 1000 1 = -1; drift 0 4 2 1001 1 = IAE; drift 0 4 2 MIN 1 = IAE; drift 0 4 2 MAX 1 = IAE; drift 0 5 12 0 0 = 0; drift 0 5 12 1 0 = 11");
        Bounds.test(quote, "rate 7 99 100; drift 7 4 12 1 1 = -11; drift 7 4 12 1 0 = 0; drift 7 5 12 1 0 = 0; drift 7 0 12 1 0 = 0; rate 6 9999 100; drift 6 4 12 1000 1 = -11; drift 6 5 12 1000 0 = 11; drift 6 0 12 1000 0 = 6; drift 6 0 12 1000 1 = -6; drift 6 1 12 1000 0 = 6; drift 6 1 12 1000 1 = -6");
        Bounds.test(quote, "rate 0 1 2; drift 0 1 2 2 0 = 0; drift 0 1 2 3 0 = 1; drift 0 1 2 3 1 = -1; drift 0 1 12 2 0 = 0; drift 0 1 12 3 0 = 6; drift 0 1 12 0 0 = 0; drift 0 1 12 1 1 = -6");
    }

    private static void mends() {
        String quote = "MEND of a PROGRAM for a LAW: the ACTS in order that have a MODE (1, 2, 11: v; 4: t) or RULE (6: t), each with the other MODES (0 .. 5) or RULES (0 .. 3) rising: the first single change by which no a of a span BREAKS the LAW.";
        String[] acts = {"TAX 1 0 #", "FLOW 1 0 #", "SUM 1; RATE 1 1 0; SHOW 1 1 #", "SUM 1; RATE 1 1 0; ROUND 1 # 1"};
        int[] places = {4, 4, 6, 6};
        for (int i = 0; i < 4; i++) {
            // A carry is the lower of the middle: only mode 4 goes with it on both sides of 0; above 0 mode 2 does, too.
            String text = HALF + "NEW; SUM 0; RATE 0 0 0; CARRY 0; BOOK 0;" + acts[i] + "; BOOK 1 1 1;";
            for (int mode = 0; mode < 6; mode++) {
                String now = text.replace("#", "" + mode);
                boolean above = mode == 2 || mode == 4;
                Bounds.test(quote, now, "mend 0 0 -9 9 = " + (mode == 4 ? "HOLDS" : "" + (10 * places[i] + 4)), "mend 0 0 0 9 = " + (above ? "HOLDS" : "" + (10 * places[i] + 2)), "mend 0 0 0 0 = HOLDS; mend 0 0 2 2 = HOLDS");
            }
        }
        // The last act that can be one with a mode, and its last mode: less the lower of -a / 2 is the upper of a / 2.
        String upper = HALF + "NEW; SUM 2; ADD 0 2 1; RATE 0 0 0; CARRY 0; BOOK 0; SUM 1; RATE 1 1 0;" + Script.times(11, "CAP 7 1 #") + "ROUND 1 # 1; BOOK 1 1;";
        Bounds.test(quote, upper.replace("#", "4"), "count 10 = 20; mend 0 0 -9 9 = 185; mend 0 0 0 9 = 180; rate 0 1 3; mend 0 0 -9 9 = 185; mend 0 0 0 9 = 183; mend 0 0 -9 0 = 182; set 0 18 5 1; mend 0 0 -9 9 = HOLDS");
        Bounds.test(quote, HALF, "NEW; TAX 0 0 5; BOOK 0; SUM 1; RATE 1 1 0; ROUND 1 4 1; BOOK 1 1 1; mend 0 0 -9 9 = 4; mend 0 0 1 9 = 2; set 0 0 0 0; mend 0 0 -9 9 = 4; set 0 0 0 4; mend 0 0 -9 9 = HOLDS; set 0 4 0 1; mend 0 0 -9 9 = 0; set 0 0 0 3; mend 0 0 -9 9 = HOLDS; rate 0 1 3; mend 0 0 -9 9 = 0; set 0 0 0 0; mend 0 0 -9 9 = HOLDS; set 0 0 0 1; mend 0 0 -9 9 = HOLDS");
        String rules = "NEW; SUM 0; SPLIT 0 # 0; PART 1 0; BOOK 1; PART 1 1; BOOK 1 1;";
        Bounds.test(quote, rules.replace("#", "0"), "mend 0 1 -9 9 = 12; set 0 1 1 0; mend 0 1 -9 9 = 12; set 0 1 2 0; mend 0 1 -9 9 = HOLDS; set 0 1 3 0; mend 0 1 -9 9 = HOLDS; told 0 1 2 = 3; told 0 1 3 = 0");
        // Only the rule that lets the first take what is left gives nothing of 1 to the first of two.
        Bounds.test(quote, "NEW; SUM 0; SPLIT 0 # 0; PART 1 0; BOOK 1;".replace("#", "0"), "mend 0 0 1 1 = 13; set 0 1 1 0; mend 0 0 1 1 = 13; set 0 1 2 0; mend 0 0 1 1 = 13; set 0 1 3 0; mend 0 0 1 1 = HOLDS; mend 0 0 2 2 = -3");
        // A 0 for the v of an act without a mode or rule would mend each of these.
        String[] modeless = {"SUM 0; BOOK 0 0 1; BOOK 0 1 1", "CAP 0 1 5; BOOK 0", "SUM 0; RATE 0 0 1; BOOK 0", "SUM 0; ADD 1 0 1; ADD 1 0 1; BOOK 1", "CAP 0 1 1; DAYS 0 1 1; CAP 1 1 1; ADD 0 1 1; BOOK 0"};
        for (String acts0 : modeless) {
            Bounds.test(quote, "rate 1 1 1; NEW;", acts0, "; mend 0 0 1 1 = -3; mend 0 0 1 9 = -3");
        }
        // What stood behind a program's acts ahead of begin() is gone.
        Bounds.test(quote, "NEW; CAP 0 1 5; BOOK 0; ROUND 1 0 1; begin; NEW; CAP 0 1 5; mend 0 0 0 9 = HOLDS; BOOK 0; mend 0 0 0 9 = -3; same 0 0 = 1; run 0 = 2");
        Bounds.test(quote, "NEW", Script.times(18, "CAP # 1 5").replaceAll("CAP \\d+", "CAP 0"), "BOOK 0; SPLIT 0; count 10 = 20; mend 0 0 0 9 = -3");
        // Two changes would be needed.
        Bounds.test(quote, HALF, "NEW; TAX 0 0 5; BOOK 0 0; TAX 0 0 5; BOOK 0 1; mend 0 1 -9 9 = -3; set 0 2 0 0; mend 0 1 -9 9 = 0; NEW; SUM 0; BOOK 0; CARRY 0; CAP 0 0 9; DAYS 0 0 1; mend 1 0 1 1 = -3; mend 1 0 0 0 = HOLDS");
    }
}
