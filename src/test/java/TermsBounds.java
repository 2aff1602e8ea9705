/** The boundary cases of Terms I to III: amounts, rates, bills, weights, rounding, acts, how runs end, splits. */
final class TermsBounds {
    private static final long TOP = 1L << 40;

    private TermsBounds() {
    }

    static void all() {
        amountsAndRates();
        billAndSets();
        roundings();
        programs();
        actSpans();
        lineActs();
        slotActs();
        partAndBookActs();
        shown();
        whole();
        spentUpper();
        spentByCarryAndDays();
        spentLower();
        asAhead();
        rules();
    }

    private static void amountsAndRates() {
        Bounds.test("AMOUNTS are exact fractions of UNITS (lowest terms, the lower number above 0).",
            "rate 0 6 4; rate 1 0 7; NEW; SUM 0; RATE 1 0 0; RATE 2 0 1; line 5; run 0 = 3; slot 1 0 = 15; slot 1 1 = 2; slot 2 0 = 0; slot 2 1 = 1",
            "bare; line -5; run 0 = 3; slot 1 0 = -15; slot 1 1 = 2; slot 2 0 = 0; slot 2 1 = 1; bare; line 4; run 0 = 3; slot 1 0 = 6; slot 1 1 = 1",
            "bare; line -4; run 0 = 3; slot 1 0 = -6; slot 1 1 = 1; bare; line 0; run 0 = 3; slot 1 0 = 0; slot 1 1 = 1");
        String rates = "RATES 0 .. 7 are fractions p / q (0 / 1 at first; q 1 .. 1000, p 0 .. 10000).";
        Bounds.test(rates, "rate -1 1 1 = -1; rate 0 1 1 = 0; rate 1 1 1 = 0; rate 6 1 1 = 0; rate 7 1 1 = 0; rate 8 1 1 = -1; rate MIN 1 1 = -1; rate MAX 1 1 = -1");
        Bounds.test(rates, "rate 3 1 0 = -1; rate 3 1 1 = 0; rate 3 1 2 = 0; rate 3 1 999 = 0; rate 3 1 1000 = 0; rate 3 1 1001 = -1; rate 3 1 -1 = -1; rate 3 1 MIN = -1; rate 3 1 MAX = -1",
            "NEW; CAP 0 1 1; RATE 1 0 3; run 0 = 2; slot 1 0 = 1; slot 1 1 = 1000");
        Bounds.test(rates, "rate 3 -1 1 = -1; rate 3 0 1 = 0; rate 3 1 1 = 0; rate 3 9999 1 = 0; rate 3 10000 1 = 0; rate 3 10001 1 = -1; rate 3 MIN 1 = -1; rate 3 MAX 1 = -1",
            "NEW; CAP 0 1 1; RATE 1 0 3; run 0 = 2; slot 1 0 = 10000; slot 1 1 = 1; rate 3 10000 1000 = 0; run 0 = 2; slot 1 0 = 10; slot 1 1 = 1; rate 3 0 1000 = 0; run 0 = 2; slot 1 0 = 0; slot 1 1 = 1");
        Bounds.test(rates, "NEW; CAP 7 1 1000000; RATE 0 7 0; RATE 1 7 1; RATE 2 7 2; RATE 3 7 3; RATE 4 7 4; RATE 5 7 5; RATE 6 7 6; RATE 7 7 7; run 0 = 9",
            Script.times(8, "slot # 0 = 0").replace("slot 8", "slot 0"), Script.times(8, "slot # 1 = 1").replace("slot 8", "slot 0"));
    }

    private static void billAndSets() {
        String bill = "A BILL has up to 12 LINES, whole numbers of UNITS (-1000000 .. 1000000), in order.";
        Bounds.test(bill, "line -1000001 = -1; line -1000000 = 1; line -999999 = 2; line 999999 = 3; line 1000000 = 4; line 1000001 = -1; line MIN = -1; line MAX = -1; line 0 = 5; line -1 = 6",
            "rate 0 1 1; NEW; TAX 0; run 0 = 1; got 0 = -1000000; got 1 = -999999; got 2 = 999999; got 3 = 1000000; got 4 = 0; got 5 = -1; slot 0 0 = -1");
        Bounds.test(bill, Script.times(11, "line # = #"), "line 12 = 12; line 13 = -2; line 1000001 = -1; line -1000001 = -1; count 0 = 12; rate 0 1 1; NEW; TAX 0; run 0 = 1; slot 0 0 = 78",
            "got 0 = 1; got 1 = 2; got 10 = 11; got 11 = 12; bare = 12; line 13 = 1");
        String sets = "SETS 0 .. 3 of WEIGHTS: 1 to 8 numbers (0 .. 1000, not all 0; at first each set is 1, 1).";
        Bounds.test(sets, "weight -1 1 = -1; weight 0 1 = 3; weight 1 1 = 3; weight 2 1 = 3; weight 3 1 = 3; weight 4 1 = -1; weight MIN 1 = -1; weight MAX 1 = -1; weight -1 -1 = -1; weight 4 -1 = -1");
        Bounds.test(sets, "weight 1 -2 = -1; count 21 = 2; weight 1 -1 = 0; weight 1 0 = 1; weight 1 1 = 2; weight 1 999 = 3; weight 1 1000 = 4; weight 1 1001 = -1; weight 1 MIN = -1; weight 1 MAX = -1",
            "NEW; CAP 0 1 4000; SPLIT 0 0 1; run 0 = 2; part 0 = 0; part 1 = 2; part 2 = 1998; part 3 = 2000; part 4 = 0");
        Bounds.test(sets, "NEW; CAP 0 1 36; SPLIT 0 0 2; weight 2 -1 = 0; weight 2 1 = 1; run 0 = 2; part 0 = 36; part 1 = 0; weight 2 2 = 2; run 0 = 2; part 0 = 12; part 1 = 24; weight 2 3 = 3; weight 2 4 = 4; weight 2 5 = 5; weight 2 6 = 6",
            "weight 2 7 = 7; weight 2 8 = 8; weight 2 9 = -2; run 0 = 2; part 0 = 1; part 6 = 7; part 7 = 8; weight 2 1001 = -1; weight 2 -2 = -1; weight 2 -1 = 0; count 22 = 0");
        Bounds.test(sets, "NEW; CAP 0 1 9; SPLIT 0 0 3; weight 3 -1 = 0", Script.times(7, "weight 3 0 = #"), "run 0 = 2; part 0 = 5; part 1 = 4; weight 3 1 = 8; run 0 = 2; part 0 = 0; part 1 = 0; part 6 = 0; part 7 = 9");
        for (int set = 0; set < 4; set++) {
            Bounds.test(sets, "count 2# = 2; NEW; CAP 0 1 9; SPLIT 0 0 #; run 0 = 2; part 0 = 5; part 1 = 4; part 2 = 0".replace("#", "" + set));
        }
        Bounds.test(sets, "weight 0 -1 = 0", Script.times(8, "weight 0 1000 = #"), Bounds.bigRates(), "NEW", Bounds.big(0, 1, TOP), "SPLIT 0 0 0; run 0; part 0 = 137438953472; part 7 = 137438953472");
        String accounts = "ACCOUNTS 0 .. 7 hold whole numbers (0 at first).";
        Bounds.test(accounts, "account -1 = IAE; account 0 = 0; account 1 = 0; account 6 = 0; account 7 = 0; account 8 = IAE; account MIN = IAE; account MAX = IAE",
            "NEW; SUM 0; BOOK 0 -1 = -1; BOOK 0 0 = 2; BOOK 0 7 1 = 3; BOOK 0 8 = -1; line 1000000; run 0 = 3; account 0 = 1000000; account 7 = -1000000; account 1 = 0; account 6 = 0");
        // What an account holds has no bound: 40 times 2^40 twice.
        Bounds.test(accounts, Bounds.bigRates(), "NEW", Bounds.big(0, 1, TOP), "BOOK 0 3; BOOK 0 4 1; years 0 40 = 40; account 3 = 43980465111040; account 4 = -43980465111040; years 0 40 = 40; account 3 = 87960930222080");
    }

    /** Twelve numbers, in hundredths, round the middles and the multiples, and what each mode makes of them. */
    private static void roundings() {
        String head = "ROUNDING an amount x to a multiple of m by a MODE: of the multiples of m the greatest that is not above x and the least that is not below it, the one that is nearer; if x is one of them, that; in MODES 0, 1 in the middle:";
        String[] quotes = {"0 the one farther from 0;", "1 the one that is an even number of times m;", "in the others always: 2 the one nearer to 0,", "3 the one farther from 0,", "4 the lower,", "5 the upper."};
        int[] hundredths = {49, 50, 51, 99, 100, 101, 149, 150, 151, 250, 0, 1};
        int[][] above = {{0, 1, 1, 1, 1, 1, 1, 2, 2, 3, 0, 0}, {0, 0, 1, 1, 1, 1, 1, 2, 2, 2, 0, 0}, {0, 0, 0, 0, 1, 1, 1, 1, 1, 2, 0, 0},
            {1, 1, 1, 1, 1, 2, 2, 2, 2, 3, 0, 1}, {0, 0, 0, 0, 1, 1, 1, 1, 1, 2, 0, 0}, {1, 1, 1, 1, 1, 2, 2, 2, 2, 3, 0, 1}};
        Bounds.test(head, "rounded 49 100 1 0 = 0; rounded 50 100 1 0 = 1; rounded 51 100 1 0 = 1; rounded 49 100 1 1 = 0; rounded 50 100 1 1 = 0; rounded 51 100 1 1 = 1; rounded 100 100 1 0 = 1; rounded 100 100 1 3 = 1");
        for (int mode = 0; mode < 6; mode++) {
            // The lower of a number below 0 is the upper of its mirror, and the other way.
            int[] below = above[mode == 4 ? 5 : mode == 5 ? 4 : mode];
            for (int i = 0; i < hundredths.length; i++) {
                rounding(quotes[mode], hundredths[i], mode, above[mode][i]);
                rounding(quotes[mode], -hundredths[i], mode, -below[i]);
            }
        }
    }

    private static void rounding(String quote, int hundredths, int mode, long due) {
        Bounds.test(quote, rounded(hundredths, 100, 1, mode, due), rounded(hundredths, 1, 100, mode, 100 * due), rounded(10000L * hundredths, 1000000, 1, mode, due),
            rounded(10000L * hundredths, 1, 1000000, mode, 1000000 * due), rounded(10000L * hundredths, 100, 10000, mode, 10000 * due));
        Bounds.test(quote, "rate 0 1 100; line " + hundredths + "; NEW; SUM 0; SUM 1; RATE 1 1 0;",
            "TAX 2 0 #; FLOW 3 0 #; SHOW 4 1 #; ROUND 0 # 100; ROUND 1 # 1; run 0 = 8;".replace("#", "" + mode),
            "slot 2 0 = #; slot 3 0 = #; slot 4 0 = #; slot 1 0 = #; slot 2 1 = 1; slot 3 1 = 1; slot 4 1 = 1; slot 1 1 = 1; slot 0 1 = 1; got 0 = #; slot 0 0 = ".replace("#", "" + due) + due * 100);
    }

    private static String rounded(long n, int d, int m, int mode, long due) {
        return "rounded " + n + " " + d + " " + m + " " + mode + " = " + due;
    }

    private static void programs() {
        String quote = "PROGRAMS 0 .. 3 have up to 20 ACTS each, on SLOTS 0 .. 7 (amounts), a CARRIED amount (0 at first) and one set of PARTS.";
        Bounds.test(quote, "count 1 = 0; run 0 = -1; program = 0; run 0 = 0; run 1 = -1; program = 1; program = 2; program = 3; program = -2; count 1 = 4; run -1 = -1; run 0 = 0; run 3 = 0; run 4 = -1; run MIN = -1; run MAX = -1");
        Bounds.test(quote, "program = 0; program = 1", Script.times(19, "act 0 8 0 0 0 = #"), "count 10 = 19; act 0 8 1 0 0 = 20; act 0 8 2 0 0 = -2; count 10 = 20; act 1 8 0 0 0 = 1; run 0 = 20; run 1 = 1; told 0 18 1 = 0; told 0 19 1 = 1; told 0 20 1 = -1");
        Bounds.test(quote, "NEW; CAP -1 1 5 = -1; CAP 0 1 5 = 1; CAP 1 1 5 = 2; CAP 6 1 5 = 3; CAP 7 1 5 = 4; CAP 8 1 5 = -1; CAP MIN 1 5 = -1; CAP MAX 1 5 = -1; run 0 = 4",
            "slot 0 0 = 5; slot 1 0 = 5; slot 2 0 = 0; slot 5 0 = 0; slot 6 0 = 5; slot 7 0 = 5; slot -1 0 = IAE; slot 8 0 = IAE");
        Bounds.test(quote, "program = 0; program = 1; program = 2; program = 3; carried 0 0 = 0; carried 0 1 = 1; carried 3 0 = 0; carried 3 1 = 1; carried 4 0 = IAE; carried -1 0 = IAE",
            "rate 0 1 2; line 1; act 1 0 0 0 0 = 1; act 1 3 0 0 0 = 2; act 1 8 0 0 0 = 3; run 1 = 3; carried 1 0 = 1; carried 1 1 = 2; carried 0 1 = 1; carried 2 1 = 1");
        Bounds.test(quote, "NEW; CAP 0 1 9; SPLIT 0 0 0; CAP 1 1 20; SPLIT 1 0 1; PART 2 0; run 0 = 5; part 0 = 10; part 1 = 10; slot 2 0 = 10");
        Bounds.test(quote, "weight 0 -1", Script.times(8, "weight 0 #"), "NEW; CAP 0 1 36; SPLIT 0 0 0; PART 2 7; SPLIT 0 0 1; PART 3 7; run 0 = 5; slot 2 0 = 8; slot 3 0 = 0; part 0 = 18; part 1 = 18; part 2 = 0; part 7 = 0");
        Bounds.test("At the beginning of a RUN all SLOTS are 0 and not SHOWN, there are no PARTS (all 8 are 0), the RESULTS of all LINES are 0.",
            "rate 0 1 1; weight 0 -1 = 0", Script.times(8, "weight 0 # = #"), Script.times(12, "line # = #"), "NEW; TAX 0; SPLIT 0; SHOW 0 0; SHOW 7 0; run 0 = 4; slot 0 0 = 78; slot 7 2 = 1; got 0 = 1; got 11 = 12; part 0 = 2; part 7 = 17",
            "NEW; BOOK 7; PART 1 7; PART 2; ADD 3 7; run 1 = 4; count 2 = 0; account 0 = 0; slot 0 0 = 0; slot 0 1 = 1; slot 0 2 = 0; slot 7 0 = 0; slot 7 1 = 1; slot 7 2 = 0; slot 1 0 = 0; slot 2 0 = 0; slot 3 2 = 0",
            Script.times(8, "part # = 0").replace("part 8", "part 0"), Script.times(12, "got # = 0").replace("got 12", "got 0"));
    }

    private static void actSpans() {
        String quote = "ACTS (s, t, v; where t or v is not named it must be 0):";
        int[][] spans = {{0, 0, 0, 0}, {0, 7, 0, 5}, {0, 7, 0, 5}, {0, 7, 0, 7}, {0, 5, 1, 100}, {0, 7, 0, 1}, {0, 3, 0, 3}, {0, 7, 0, 0}, {0, 0, 0, 0}, {0, 1, 0, 1000000},
            {0, 7, 0, 1}, {0, 7, 0, 5}, {0, 7, 1, 30}};
        for (int kind = 0; kind < 13; kind++) {
            int[] span = spans[kind];
            String act = "act 0 " + kind + " 5 ";
            StringBuilder acts = new StringBuilder("NEW;" + act + "0 " + span[2] + " = 1;");
            StringBuilder sets = new StringBuilder();
            int size = 1;
            for (int[] pair : near(span)) {
                boolean fits = pair[0] >= span[0] && pair[0] <= span[1] && pair[1] >= span[2] && pair[1] <= span[3];
                size += fits ? 1 : 0;
                acts.append(act + pair[0] + " " + pair[1] + " = " + (fits ? size : -1) + ";");
                sets.append("set 0 0 " + pair[0] + " " + pair[1] + " = " + (fits ? 0 : -1) + ";");
                sets.append(fits ? "told 0 0 2 = " + pair[0] + "; told 0 0 3 = " + pair[1] + ";" : "");
            }
            Bounds.test(quote, acts.toString(), sets.toString());
            String at = " " + span[0] + " " + span[2];
            Bounds.test(quote, "NEW; " + ("act 0 K -1T = -1; act 0 K 0T = 1; act 0 K 1T = 2; act 0 K 6T = 3; act 0 K 7T = 4; act 0 K 8T = -1; act 0 K MINT = -1; act 0 K MAXT = -1; told 0 3 1 = 7").replace("K", "" + kind).replace("T", at));
        }
        Bounds.test(quote, "NEW; act 0 -1 0 0 0 = -1; act 0 0 0 0 0 = 1; act 0 1 0 0 0 = 2; act 0 11 0 0 0 = 3; act 0 12 0 0 1 = 4; act 0 13 0 0 0 = -1; act 0 13 0 0 1 = -1; act 0 MIN 0 0 0 = -1; act 0 MAX 0 0 0 = -1");
    }

    /** Pairs of t and v at the ends of their spans, just within and just beyond; at most nineteen of them fit. */
    private static int[][] near(int[] span) {
        int[][] pairs = new int[16][];
        for (int side = 0; side < 2; side++) {
            int low = span[2 * side];
            int high = span[2 * side + 1];
            int[] values = {low - 1, low, Math.min(low + 1, high), Math.max(high - 1, low), high, high + 1, Integer.MIN_VALUE, Integer.MAX_VALUE};
            for (int i = 0; i < 8; i++) {
                pairs[8 * side + i] = side == 0 ? new int[] {values[i], span[2]} : new int[] {span[0], values[i]};
            }
        }
        return pairs;
    }

    private static void lineActs() {
        Bounds.test("0 SUM: SLOT s becomes the sum of the LINES (t, v 0).",
            "NEW; SUM 3; run 0 = 1; slot 3 0 = 0; slot 3 1 = 1; line 7; run 0 = 1; slot 3 0 = 7; line -8; run 0 = 1; slot 3 0 = -1; bare", Script.times(12, "line 1000000 = #"), "run 0 = 1; slot 3 0 = 12000000; bare", Script.times(12, "line -1000000 = #"), "run 0 = 1; slot 3 0 = -12000000; slot 3 1 = 1");
        String tax = "1 TAX: the RESULT of each LINE becomes LINE times RATE t, ROUNDED to a UNIT by MODE v; SLOT s becomes their sum.";
        Bounds.test(tax, "rate 7 1 1000; NEW; CAP 2 1 9; TAX 2 7 4; run 0 = 2; slot 2 0 = 0; got 0 = 0; line 999; line 1000; line 1001; run 0 = 2; got 0 = 0; got 1 = 1; got 2 = 1; got 3 = 0; slot 2 0 = 2; set 0 1 7 5; run 0 = 2; got 0 = 1; got 1 = 1; got 2 = 2; slot 2 0 = 4");
        Bounds.test(tax, "rate 0 10000 1; NEW; TAX 0", Script.times(12, "line 1000000 = #"), "run 0 = 1; got 0 = 10000000000; got 11 = 10000000000; slot 0 0 = 120000000000; rate 0 0 1; run 0 = 1; got 11 = 0; slot 0 0 = 0; slot 0 1 = 1; bare", Script.times(11, "line -1000000 = #"), "rate 0 10000 1; run 0 = 1; got 10 = -10000000000; got 11 = 0; slot 0 0 = -110000000000");
        String flow = "2 FLOW: in the LINES' order: the RESULT of a LINE becomes the sum of the LINES up to it times RATE t, ROUNDED to a UNIT by MODE v, less the RESULTS ahead of it; SLOT s becomes their sum.";
        Bounds.test(flow, "rate 0 1 3; NEW; CAP 2 1 9; FLOW 2; run 0 = 2; slot 2 0 = 0; line 1; run 0 = 2; got 0 = 0; slot 2 0 = 0; line 1; run 0 = 2; got 0 = 0; got 1 = 1; slot 2 0 = 1; line 1; run 0 = 2; got 1 = 1; got 2 = 0; got 3 = 0; slot 2 0 = 1");
        Bounds.test(flow, "rate 0 1 2; NEW; FLOW 0; line 1; line -1; line -1; run 0 = 1; got 0 = 1; got 1 = -1; got 2 = -1; slot 0 0 = -1; bare; line -1; line 1; line 1; run 0 = 1; got 0 = -1; got 1 = 1; got 2 = 1; slot 0 0 = 1");
        Bounds.test(flow, "rate 0 10000 1; NEW; FLOW 0", Script.times(12, "line 1000000 = #"), "run 0 = 1; got 0 = 10000000000; got 11 = 10000000000; slot 0 0 = 120000000000; bare; line 1000000; line -1000000; line -1000000; run 0 = 1; got 0 = 10000000000; got 1 = -10000000000; got 2 = -10000000000; slot 0 0 = -10000000000");
    }

    private static void slotActs() {
        Bounds.test("3 RATE: SLOT s becomes SLOT t times RATE v.",
            "rate 7 10000 1; rate 6 0 1; rate 5 1 1000; NEW; SUM 0; RATE 7 0 7; RATE 1 7 6; RATE 0 0 5; RATE 2 6 7; line 1; run 0 = 5; slot 7 0 = 10000; slot 1 0 = 0; slot 1 1 = 1; slot 0 0 = 1; slot 0 1 = 1000; slot 2 0 = 0; slot 2 1 = 1; bare; line -1; run 0 = 5; slot 7 0 = -10000; slot 0 0 = -1; slot 0 1 = 1000");
        String round = "4 ROUND: SLOT s is ROUNDED to a multiple of v (1 .. 100) by MODE t.";
        Bounds.test(round, "NEW; SUM 0; ROUND 0 0 100; line 49; run 0 = 2; slot 0 0 = 0; bare; line 50; run 0 = 2; slot 0 0 = 100; bare; line 51; run 0 = 2; slot 0 0 = 100; set 0 1 0 99; bare; line 49; run 0 = 2; slot 0 0 = 0; bare; line 50; run 0 = 2; slot 0 0 = 99",
            "set 0 1 0 1; run 0 = 2; slot 0 0 = 50; set 0 1 0 2; bare; line 1; run 0 = 2; slot 0 0 = 2; set 0 1 1 2; run 0 = 2; slot 0 0 = 0; bare; line 3; run 0 = 2; slot 0 0 = 4; set 0 1 0 0 = -1; set 0 1 0 101 = -1");
        Bounds.test("5 ADD: SLOT s becomes SLOT s and (v 0) or less (v 1) SLOT t.",
            "rate 0 1 2; NEW; SUM 0; RATE 0 0 0; ADD 0 0 0; ADD 1 0 1; ADD 0 0 1; line 3; run 0 = 5; slot 0 0 = 0; slot 0 1 = 1; slot 1 0 = -3; slot 1 1 = 1; set 0 4 0 0; run 0 = 5; slot 0 0 = 6; set 0 4 7 1; run 0 = 5; slot 0 0 = 3; NEW; ADD 0 0 2 = -1; ADD 0 0 -1 = -1");
        String carry = "8 CARRY: CARRIED and SLOT s added: SLOT s becomes the greatest whole number that is not above, CARRIED the rest (t, v 0).";
        Bounds.test(carry, "rate 0 1 3; NEW; SUM 0; RATE 0 0 0; CARRY 0; line 1; run 0 = 3; slot 0 0 = 0; slot 0 1 = 1; carried 0 0 = 1; carried 0 1 = 3; run 0 = 3; slot 0 0 = 0; carried 0 0 = 2; carried 0 1 = 3; run 0 = 3; slot 0 0 = 1; slot 0 1 = 1; carried 0 0 = 0; carried 0 1 = 1",
            "bare; line 2; run 0 = 3; carried 0 0 = 2; run 0 = 3; slot 0 0 = 1; carried 0 0 = 1; carried 0 1 = 3; bare; line 3; run 0 = 3; slot 0 0 = 1; carried 0 0 = 1; bare; line 0; run 0 = 3; slot 0 0 = 0; carried 0 0 = 1; carried 0 1 = 3");
        Bounds.test(carry, "rate 0 1 3; NEW; SUM 0; RATE 0 0 0; CARRY 0; line -1; run 0 = 3; slot 0 0 = -1; carried 0 0 = 2; carried 0 1 = 3; run 0 = 3; slot 0 0 = 0; carried 0 0 = 1; carried 0 1 = 3; run 0 = 3; slot 0 0 = 0; slot 0 1 = 1; carried 0 0 = 0; carried 0 1 = 1; bare; line -3; run 0 = 3; slot 0 0 = -1; carried 0 0 = 0; carried 0 1 = 1");
        String cap = "9 CAP: SLOT s becomes v (0 .. 1000000) if it is above (t 0) or below (t 1) that.";
        Bounds.test(cap, "rate 0 1 1000; NEW; SUM 0; RATE 0 0 0; CAP 0 0 4; line 3999; run 0 = 3; slot 0 0 = 3999; slot 0 1 = 1000; bare; line 4000; run 0 = 3; slot 0 0 = 4; slot 0 1 = 1; bare; line 4001; run 0 = 3; slot 0 0 = 4; slot 0 1 = 1",
            "set 0 2 1 4; run 0 = 3; slot 0 0 = 4001; slot 0 1 = 1000; bare; line 4000; run 0 = 3; slot 0 0 = 4; bare; line 3999; run 0 = 3; slot 0 0 = 4; slot 0 1 = 1");
        Bounds.test(cap, "rate 0 1 1000; NEW; SUM 0; RATE 0 0 0; CAP 0 0 0; line -1; run 0 = 3; slot 0 0 = -1; slot 0 1 = 1000; bare; line 1; run 0 = 3; slot 0 0 = 0; slot 0 1 = 1; set 0 2 1 0; run 0 = 3; slot 0 0 = 1; slot 0 1 = 1000; bare; line -1; run 0 = 3; slot 0 0 = 0; slot 0 1 = 1");
        Bounds.test(cap, "NEW; SUM 0; CAP 0 0 1000000; line 1000000; run 0 = 2; slot 0 0 = 1000000; line 1; run 0 = 2; slot 0 0 = 1000000; set 0 1 1 1000000; run 0 = 2; slot 0 0 = 1000001; line -2; run 0 = 2; slot 0 0 = 1000000; set 0 1 0 1000000; run 0 = 2; slot 0 0 = 999999; set 0 1 1 1000001 = -1; set 0 1 1 -1 = -1");
        String days = "12 DAYS: v (1 .. 30) times: to SLOT s is added SLOT s times RATE t, ROUNDED to a UNIT by MODE 1.";
        Bounds.test(days, "rate 7 1 1; NEW; SUM 0; DAYS 0 7 1; line 1; run 0 = 2; slot 0 0 = 2; set 0 1 7 2; run 0 = 2; slot 0 0 = 4; set 0 1 7 29; run 0 = 2; slot 0 0 = 536870912; set 0 1 7 30; run 0 = 2; slot 0 0 = 1073741824; set 0 1 7 31 = -1; set 0 1 7 0 = -1; bare; line -1; run 0 = 2; slot 0 0 = -1073741824; bare; line 0; run 0 = 2; slot 0 0 = 0");
        Bounds.test(days, "rate 0 1 2; NEW; SUM 0; DAYS 0 0 1; line 1; run 0 = 2; slot 0 0 = 1; bare; line 2; run 0 = 2; slot 0 0 = 3; bare; line 3; run 0 = 2; slot 0 0 = 5; bare; line 5; run 0 = 2; slot 0 0 = 7; bare; line -1; run 0 = 2; slot 0 0 = -1; bare; line -3; run 0 = 2; slot 0 0 = -5; set 0 1 0 2; run 0 = 2; slot 0 0 = -7",
            "rate 0 499 1000; bare; line 1; run 0 = 2; slot 0 0 = 1; rate 0 501 1000; run 0 = 2; slot 0 0 = 3; rate 0 0 1; run 0 = 2; slot 0 0 = 1");
        Bounds.test(days, "rate 0 1 3; rate 1 9 4; rate 2 9 5; NEW; SUM 0; RATE 0 0 0; DAYS 0 1 1; line 2; run 0 = 3; slot 0 0 = 8; slot 0 1 = 3; set 0 2 2 1; run 0 = 3; slot 0 0 = 5; slot 0 1 = 3; bare; line 1; run 0 = 3; slot 0 0 = 4; slot 0 1 = 3; set 0 2 0 30; run 0 = 3; slot 0 0 = 1; slot 0 1 = 3");
    }

    private static void partAndBookActs() {
        String split = "6 SPLIT: SLOT s, which must be whole, is parted by the WEIGHTS of SET v and RULE t (III).";
        Bounds.test(split, "rate 0 1 2; NEW; SUM 0; RATE 0 0 0; SPLIT 0 0 3; line 1; run 0 = -5; failed = 2; bare; line 2; run 0 = 3; part 0 = 1; part 1 = 0; bare; line 3; run 0 = -5; bare; line 0; run 0 = 3; part 0 = 0; bare; line -2; run 0 = 3; part 0 = 0; part 1 = -1; bare; line -1; run 0 = -5; failed = 2; slot 0 0 = -1; slot 0 1 = 2");
        Bounds.test(split, "weight 0 -1; weight 0 0; weight 0 1; weight 3 -1; weight 3 1; NEW; CAP 0 1 5; SPLIT 0 0 0; run 0 = 2; part 0 = 0; part 1 = 5; set 0 1 0 3; run 0 = 2; part 0 = 5; part 1 = 0; set 0 1 3 3; run 0 = 2; part 0 = 5; set 0 1 4 3 = -1; set 0 1 -1 3 = -1; set 0 1 0 4 = -1; set 0 1 0 -1 = -1");
        Bounds.test("7 PART: SLOT s becomes the t-th PART (0 .. 7; v 0).",
            "weight 0 -1", Script.times(7, "weight 0 # = #"), "NEW; CAP 0 1 28; CAP 2 1 5; PART 2 0; SPLIT 0 0 0; PART 0 0; PART 6 6; CAP 7 1 9; PART 7 7; PART 0 8 = -1; PART 0 -1 = -1; run 0 = 8; slot 2 0 = 0; slot 0 0 = 1; slot 6 0 = 7; slot 7 0 = 0; weight 0 8 = 8; set 0 0 1 36; run 0 = 8; slot 7 0 = 8; slot 6 0 = 7");
        Bounds.test("10 BOOK: SLOT s, which must be whole, is added to ACCOUNT t (v 0) or taken off (v 1).",
            "rate 0 1 1000; NEW; SUM 0; RATE 0 0 0; BOOK 0 7 1; BOOK 0 0; line 999; run 0 = -5; failed = 2; account 7 = 0; bare; line 1000; run 0 = 4; account 7 = -1; account 0 = 1; bare; line 1001; run 0 = -5; account 0 = 1; bare; line 0; run 0 = 4; account 0 = 1; bare; line -1000; run 0 = 4; account 7 = 0; account 0 = 0; run 0 = 4; account 7 = 1; account 0 = -1; NEW; BOOK 0 0 2 = -1; BOOK 0 0 -1 = -1");
        Bounds.test("11 SHOW: SLOT s becomes SLOT t ROUNDED to a UNIT by MODE v, and is SHOWN.",
            "rate 0 1 2; NEW; SUM 0; RATE 0 0 0; SHOW 7 0 5; line 3; run 0 = 3; slot 7 0 = 2; slot 7 1 = 1; slot 7 2 = 1; slot 0 0 = 3; slot 0 1 = 2; slot 0 2 = 0; SHOW 0 0 4; SHOW 6 5 0; run 0 = 5; slot 0 0 = 1; slot 0 1 = 1; slot 0 2 = 1; slot 6 0 = 0; slot 6 2 = 1; slot 5 2 = 0");
    }

    private static void shown() {
        Bounds.test("A SLOT that becomes something by 0, 1, 2 is not SHOWN;",
            "NEW; SHOW 0; SHOW 1; SHOW 2; SHOW 3; SUM 0; TAX 1; FLOW 2; run 0 = 7; slot 0 2 = 0; slot 1 2 = 0; slot 2 2 = 0; slot 3 2 = 1");
        Bounds.test("by 3 it is SHOWN if SLOT t is;",
            "NEW; SHOW 0; RATE 1 0 0; RATE 2 3 0; SHOW 4; RATE 4 3 0; RATE 0 0 0; run 0 = 6; slot 0 2 = 1; slot 1 2 = 1; slot 2 2 = 0; slot 3 2 = 0; slot 4 2 = 0");
        Bounds.test("by 5 if either is;",
            "NEW; SHOW 0; ADD 1 0; SHOW 2; ADD 2 7; SHOW 3; ADD 3 0 1; ADD 4 7; ADD 5 5 1; ADD 6 0 1; run 0 = 9; slot 1 2 = 1; slot 2 2 = 1; slot 3 2 = 1; slot 4 2 = 0; slot 5 2 = 0; slot 6 2 = 1; slot 0 2 = 1; slot 7 2 = 0");
        Bounds.test("4, 8, 9 and 12 leave it as it is;",
            "NEW; SHOW 0; SHOW 1; SHOW 2; SHOW 3; ROUND 0 0 7; CARRY 1; CAP 2 1 5; DAYS 3 0 9; ROUND 4 0 7; CARRY 5; CAP 6 1 5; DAYS 7 0 9; run 0 = 12; slot 0 2 = 1; slot 1 2 = 1; slot 2 2 = 1; slot 2 0 = 5; slot 3 2 = 1; slot 4 2 = 0; slot 5 2 = 0; slot 6 2 = 0; slot 6 0 = 5; slot 7 2 = 0");
        Bounds.test("by 7 if the SLOT of the last SPLIT was when it was parted.",
            "NEW; SHOW 7; PART 7; SHOW 0; SPLIT 0; PART 1 7; SUM 0; PART 2; SPLIT 0; SHOW 0; PART 3; SHOW 4; PART 4; run 0 = 12; slot 7 2 = 0; slot 1 2 = 1; slot 0 2 = 1; slot 2 2 = 1; slot 3 2 = 0; slot 4 2 = 0", "NEW; SHOW 0; SPLIT 0; NEW; PART 1; run 1 = 2; run 2 = 1; slot 1 2 = 0");
        Bounds.test("A BOOK of a SHOWN SLOT is a LEAK.",
            "NEW; BOOK 0; run 0 = 1; count 2 = 0; SHOW 0; BOOK 0; run 0 = 3; count 2 = 1; BOOK 0 7 1; BOOK 1; run 0 = 5; count 2 = 3; SUM 0; BOOK 0; run 0 = 7; count 2 = 5; years 0 40 = 40; count 2 = 85; SPLIT 0; BOOK 0; run 0 = 9; count 2 = 87");
    }

    private static void whole() {
        String quote = "A RUN ends at the first ACT that fails: WHOLE (-5): a SPLIT or BOOK of what isn't whole;";
        Bounds.test(quote, "rate 0 1 2; line 1; NEW; SUM 0; RATE 0 0 0; BOOK 0; CAP 1 1 9; run 0 = -5; failed = 2; slot 0 0 = 1; slot 0 1 = 2; slot 1 0 = 0; account 0 = 0; bare; line 2; run 0 = 4; failed = -2; account 0 = 1; slot 1 0 = 9; bare; line 3; run 0 = -5; failed = 2; bare; line -1; run 0 = -5; account 0 = 1");
        Bounds.test(quote, "rate 0 1 1000; rate 1 1000 1; line 1; NEW; SUM 0; RATE 0 0 0; RATE 0 0 0; SPLIT 0; run 0 = -5; failed = 3; rate 0 1 1; run 0 = 4; failed = -2; part 0 = 1; NEW; SUM 0; RATE 0 0 0; RATE 0 0 1; SPLIT 0; BOOK 0; rate 0 1 1000; run 1 = 5; account 0 = 1; slot 0 1 = 1");
        // Of two failing acts the first one ends the run.
        Bounds.test(quote, "rate 0 1 2; rate 1 10000 1; line 1; NEW; CAP 1 1 1000000; RATE 1 1 1; SUM 0; RATE 0 0 0; BOOK 0; RATE 1 1 1; run 0 = -5; failed = 4; slot 1 0 = 10000000000; NEW; CAP 1 1 1000000; RATE 1 1 1; SUM 0; RATE 0 0 0; RATE 1 1 1; BOOK 0; run 1 = -6; failed = 4; slot 1 0 = 10000000000");
        Bounds.test(quote, "rate 0 1 2; line 1; NEW; SUM 0; RATE 0 0 0; BOOK 0; run 0 = -5; failed = 2; NEW; BOOK 0; run 1 = 1; failed = -2; run 0 = -5; failed = 2; NEW; run 2 = 0; failed = -2");
    }

    /** Runs acts behind a slot 0 that holds a number, and sees what the slot becomes or that it stays. */
    private static void spent(String quote, String rates, long number, String acts, String due) {
        Bounds.test(quote, Bounds.bigRates(), rates, "NEW", Bounds.big(0, 1, number), acts, due);
    }

    private static void spentUpper() {
        String quote = "SPENT (-6): an amount that becomes a SLOT, a RESULT or CARRIED (for 12 after each time; for 5, 8 after the sum) has an upper number beyond 2^40 or below -2^40,";
        for (int sign = -1; sign <= 1; sign += 2) {
            String top = "slot 0 0 = " + sign * TOP + ";";
            String under = "slot 0 0 = " + sign * (TOP - 1) + ";";
            spent(quote, "rate 0 3 1", sign * (TOP - 1) / 3, "RATE 0 0 0", "run 0 = 8;" + under);
            spent(quote, "rate 0 2 1", sign * TOP / 2, "RATE 0 0 0", "run 0 = 8; failed = -2;" + top);
            spent(quote, "rate 0 257 1", sign * 4278255361L, "RATE 0 0 0", "run 0 = -6; failed = 7; slot 0 0 = " + sign * 4278255361L);
            spent(quote, "rate 0 257 1", sign * 4278255361L, "RATE 2 0 0", "run 0 = -6; failed = 7; slot 2 0 = 0; slot 2 1 = 1");
            // The upper number of the lowest terms is meant, and the amount itself may be small.
            spent(quote, "rate 0 514 2", sign * 4278255361L, "RATE 0 0 0", "run 0 = -6");
            spent(quote, "rate 0 4 2", sign * TOP / 2, "RATE 0 0 0", "run 0 = 8;" + top);
            spent(quote, "rate 0 999 999", sign * TOP, "RATE 0 0 0", "run 0 = 8;" + top);
            spent(quote, "rate 0 2 3", sign * TOP / 2, "RATE 0 0 0", "run 0 = 8; slot 0 1 = 3;" + top);
            spent(quote, "rate 0 257 3", sign * 4278255361L, "RATE 0 0 0", "run 0 = -6; failed = 7; slot 0 1 = 1");
            int away = sign > 0 ? 5 : 4;
            int toward = sign > 0 ? 4 : 5;
            spent(quote, "", sign * (TOP - 1), "ROUND 0 " + away + " 2", "run 0 = 8;" + top);
            spent(quote, "", sign * TOP, "ROUND 0 " + away + " 64", "run 0 = 8;" + top);
            spent(quote, "", sign * TOP, "ROUND 0 " + away + " 3", "run 0 = -6; failed = 7;" + top);
            spent(quote, "", sign * TOP, "ROUND 0 " + toward + " 3", "run 0 = 8;" + under);
            spent(quote, "", sign * TOP, "SHOW 0 0 " + away, "run 0 = 8; slot 0 2 = 1;" + top);
            String one = "PART 2; CAP 2 1 1;";
            int more = sign > 0 ? 0 : 1;
            spent(quote, "", sign * (TOP - 1), one + "ADD 0 2 " + more, "run 0 = 10;" + top);
            spent(quote, "", sign * TOP, one + "ADD 0 2 " + more, "run 0 = -6; failed = 9;" + top);
            spent(quote, "", sign * TOP, one + "ADD 0 2 " + (1 - more), "run 0 = 10;" + under);
            spent(quote, "", sign * TOP, "ADD 0 2 0; ADD 0 2 1", "run 0 = 9;" + top);
            // (2^40 - 1) / 2 twice is 2^40 - 1: only what comes of the sum is looked at.
            spent(quote, "rate 0 1 2", sign * (TOP - 1), "RATE 0 0 0; ADD 0 0 0", "run 0 = 9; slot 0 1 = 1;" + under);
            spent(quote, "rate 0 1 2", sign * TOP / 2, "CAP 2 1 1; RATE 2 2 0; ADD 0 2 " + more, "run 0 = -6; slot 0 1 = 1; slot 0 0 = " + sign * TOP / 2);
            spent(quote, "", sign * TOP, "SPLIT 0 2 0; PART 0 0; ADD 0 0 0", "run 0 = 10;" + top);
            spent(quote, "weight 0 -1; weight 0 7", sign * TOP, "SPLIT 0 0 0; PART 3 0; BOOK 3 5", "run 0 = 10; account 5 = " + sign * TOP);
        }
    }

    private static void spentByCarryAndDays() {
        String quote = "SPENT (-6): an amount that becomes a SLOT, a RESULT or CARRIED (for 12 after each time; for 5, 8 after the sum) has an upper number beyond 2^40 or below -2^40,";
        // CARRIED 1 / 3 or 2 / 3, made by a first run with another line, and then the big slot.
        String acts = "SUM 2; RATE 2 2 0; CARRY 2; CARRY 0;";
        spent(quote, "rate 0 1 3", (TOP - 1) / 3, acts, "line 1; run 0 = 11; slot 0 0 = 366503875925; carried 0 0 = 1; carried 0 1 = 3; bare; line 2; run 0 = 11; slot 0 0 = 366503875925; carried 0 0 = 0");
        spent(quote, "rate 0 1 3", (TOP - 1) / 3, acts, "line 2; run 0 = -6; failed = 10; slot 0 0 = 366503875925; slot 0 1 = 1; slot 2 0 = 0; carried 0 0 = 0; carried 0 1 = 1");
        spent(quote, "rate 0 1 3", -(TOP + 2) / 3, acts, "line 2; run 0 = 11; slot 0 0 = -366503875926; carried 0 0 = 2; carried 0 1 = 3");
        spent(quote, "rate 0 1 3", -(TOP + 2) / 3, acts, "line 1; run 0 = -6; failed = 10; slot 0 0 = -366503875926; carried 0 0 = 0; carried 0 1 = 1");
        spent(quote, "rate 0 1 3", TOP, acts, "line 3; run 0 = 11; slot 0 0 = 1099511627776; slot 2 0 = 1; carried 0 0 = 0; bare; line 1; run 0 = -6");
        for (int sign = -1; sign <= 1; sign += 2) {
            spent(quote, "rate 0 1 2", sign * 733007751850L, "DAYS 0 0 1", "run 0 = 8; slot 0 0 = " + sign * (TOP - 1));
            spent(quote, "rate 0 1 1", sign * TOP / 2, "DAYS 0 0 1", "run 0 = 8; slot 0 0 = " + sign * TOP);
            spent(quote, "rate 0 1 2", sign * 733007751851L, "DAYS 0 0 1", "run 0 = -6; failed = 7; slot 0 0 = " + sign * 733007751851L);
            spent("(and the SLOT that would be SPENT is as it was ahead of that, of DAYS ahead of that time).", "rate 0 1 1", sign * TOP / 2, "DAYS 0 0 2", "run 0 = -6; failed = 7; slot 0 0 = " + sign * TOP);
            spent("(and the SLOT that would be SPENT is as it was ahead of that, of DAYS ahead of that time).", "rate 0 1 1", sign * TOP / 8, "DAYS 0 0 30", "run 0 = -6; failed = 7; slot 0 0 = " + sign * TOP);
            spent("(and the SLOT that would be SPENT is as it was ahead of that, of DAYS ahead of that time).", "rate 0 0 1", sign * TOP, "DAYS 0 0 30", "run 0 = 8; slot 0 0 = " + sign * TOP);
        }
        spent("(and the SLOT that would be SPENT is as it was ahead of that, of DAYS ahead of that time).", "rate 0 2 1", TOP, "SHOW 2 3; RATE 2 0 0", "run 0 = -6; failed = 8; slot 2 0 = 0; slot 2 2 = 1; slot 0 2 = 0");
        spent("(and the SLOT that would be SPENT is as it was ahead of that, of DAYS ahead of that time).", "rate 0 1 2", TOP, "SHOW 2 0; CAP 3 1 1; ADD 3 2", "run 0 = -6; failed = 9; slot 3 0 = 1; slot 3 2 = 0; slot 2 2 = 1");
    }

    private static void spentLower() {
        String quote = "or a lower one beyond 2^20.";
        String three = "NEW; SUM 0; RATE 0 0 0; RATE 0 0 1; RATE 0 0 2; line 1;";
        // 1048575, 1048576 and 1048579, the next that RATES can make.
        Bounds.test(quote, "rate 0 1 33; rate 1 1 775; rate 2 1 41", three, "run 0 = 4; slot 0 0 = 1; slot 0 1 = 1048575; bare; line -1; run 0 = 4; slot 0 0 = -1; slot 0 1 = 1048575");
        Bounds.test(quote, "rate 0 1 512; rate 1 1 512; rate 2 1 4", three, "run 0 = 4; slot 0 0 = 1; slot 0 1 = 1048576; bare; line 3; run 0 = 4; slot 0 0 = 3; slot 0 1 = 1048576");
        Bounds.test(quote, "rate 0 1 919; rate 1 1 163; rate 2 1 7", three, "run 0 = -6; failed = 3; slot 0 0 = 1; slot 0 1 = 149797; bare; line 7; run 0 = 4; slot 0 0 = 1; slot 0 1 = 149797; bare; line -1; run 0 = -6; slot 0 0 = -1; slot 0 1 = 149797; bare; line 0; run 0 = 4");
        String sum = "NEW; SUM 0; RATE 0 0 0; RATE 0 0 1; SUM 1; RATE 1 1 2; ADD 0 1; line 1;";
        Bounds.test(quote, "rate 0 1 33; rate 1 1 775; rate 2 1 41", sum, "run 0 = 6; slot 0 0 = 25616; slot 0 1 = 1048575; set 0 5 1 1; run 0 = 6; slot 0 0 = -25534; slot 0 1 = 1048575");
        Bounds.test(quote, "rate 0 1 919; rate 1 1 163; rate 2 1 7", sum, "run 0 = -6; failed = 5; slot 0 0 = 1; slot 0 1 = 149797; slot 1 1 = 7; set 0 5 1 1; run 0 = -6; set 0 5 0 0; run 0 = 6; slot 0 0 = 2; slot 0 1 = 149797");
        // 1 / 2^20 twice is 1 / 2^19: only what comes of the sum is looked at.
        Bounds.test(quote, "rate 0 1 512; rate 1 1 512; rate 2 1 4; rate 3 1 3", three, "ADD 0 0; run 0 = 5; slot 0 0 = 1; slot 0 1 = 524288; SUM 1; RATE 1 1 3; ADD 1 0; run 0 = -6; failed = 7; slot 1 0 = 1; slot 1 1 = 3");
        String carry = "NEW; SUM 0; RATE 0 0 0; RATE 0 0 1; CARRY 0; SUM 1; RATE 1 1 2; CARRY 1; line 1;";
        Bounds.test(quote, "rate 0 1 33; rate 1 1 775; rate 2 1 41", carry, "run 0 = 7; slot 1 0 = 0; carried 0 0 = 25616; carried 0 1 = 1048575");
        Bounds.test(quote, "rate 0 1 512; rate 1 1 2; rate 2 1 512", carry, "run 0 = 7; carried 0 0 = 3; carried 0 1 = 1024; rate 1 1 1000; rate 2 1 8; run 0 = 7; carried 0 1 = 512000");
        Bounds.test(quote, "rate 0 1 919; rate 1 1 163; rate 2 1 7", carry, "run 0 = -6; failed = 6; slot 0 0 = 0; slot 1 0 = 1; slot 1 1 = 7; carried 0 0 = 0; carried 0 1 = 1");
        Bounds.test(quote, "rate 0 1 512; rate 1 1 512; rate 2 1 4; rate 3 1 1", three, "CARRY 0; run 0 = 5; slot 0 0 = 0; carried 0 0 = 1; carried 0 1 = 1048576; run 0 = 5; carried 0 0 = 1; carried 0 1 = 524288; rate 3 1 3; SUM 1; RATE 1 1 3; CARRY 1; run 0 = -6; failed = 7; carried 0 1 = 524288");
    }

    private static void asAhead() {
        String quote = "Then ACCOUNTS, CARRIED and LEAKS are as ahead of the RUN";
        Bounds.test(quote, "rate 0 1 2; line 1; NEW; SUM 0; RATE 0 0 0; CARRY 0; SHOW 1 0; CAP 1 1 5; BOOK 1 3; SUM 2; run 0 = 7; account 3 = 5; count 2 = 1; carried 0 0 = 1; carried 0 1 = 2; RATE 2 2 0; BOOK 2 4; run 0 = -5; failed = 8; account 3 = 5; account 4 = 0; count 2 = 1; carried 0 0 = 1; carried 0 1 = 2",
            "slot 0 0 = 1; slot 1 2 = 1; years 0 7 = 0; account 3 = 5; count 2 = 1; bare; line 2; run 0 = 9; account 3 = 10; account 4 = 1; count 2 = 2; carried 0 0 = 1; bare; line 1; years 0 40 = 0; account 3 = 10; count 2 = 2");
        Bounds.test(quote, "rate 0 10000 1; line 1000000; NEW; SUM 0; SHOW 1 0; BOOK 1 3; BOOK 0 2 1; RATE 0 0 0; RATE 0 0 0; run 0 = -6; failed = 5; account 3 = 0; account 2 = 0; count 2 = 0; rate 0 1 1; run 0 = 6; account 3 = 1000000; account 2 = -1000000; count 2 = 1; rate 0 10000 1; run 0 = -6; account 3 = 1000000; account 2 = -1000000; count 2 = 1");
    }

    private static String weights(int... weights) {
        StringBuilder text = new StringBuilder("weight 0 -1 = 0;");
        for (int i = 0; i < weights.length; i++) {
            text.append("weight 0 " + weights[i] + " = " + (i + 1) + ";");
        }
        return text.toString();
    }

    private static void split(String quote, int rule, String weights, String... cases) {
        StringBuilder text = new StringBuilder(weights + "NEW; SUM 0; SPLIT 0 " + rule + " 0;");
        for (String one : cases) {
            String[] sides = one.split(":");
            text.append("bare; line " + sides[0].trim() + "; run 0 = 2;");
            String[] parts = sides[1].trim().split(" +");
            for (int i = 0; i < 8; i++) {
                text.append("part " + i + " = " + (i < parts.length ? parts[i] : "0") + ";");
            }
        }
        Bounds.test(quote, text.toString());
    }

    private static void rules() {
        String shares = "RULES of a SPLIT of x by WEIGHTS w(0), w(1) .. with the sum W: the SHARES are x w(i) / W.";
        split(shares, 0, weights(1, 2, 5), "8: 1 2 5", "-8: -1 -2 -5", "1000000: 125000 250000 625000", "0: 0 0 0");
        split(shares, 0, weights(1000, 0, 1000), "2: 1 0 1", "1: 1 0 0", "-1: 0 0 -1");
        String rests = "0: each PART is the greatest whole number not above its SHARE; what is left is given one by one to the PARTS with the greatest rests (SHARE less PART), of like ones the first.";
        split(rests, 0, weights(1, 1, 1), "0: 0 0 0", "1: 1 0 0", "2: 1 1 0", "3: 1 1 1", "4: 2 1 1", "-1: 0 0 -1", "-2: 0 -1 -1", "-3: -1 -1 -1", "-4: -1 -1 -2");
        split(rests, 0, weights(1, 2), "1: 0 1", "2: 1 1", "3: 1 2", "-1: 0 -1", "-2: -1 -1", "-3: -1 -2");
        split(rests, 0, weights(333, 333, 334), "1: 0 0 1", "2: 1 0 1", "-1: 0 0 -1");
        split(rests, 0, weights(334, 333, 333), "1: 1 0 0", "2: 1 1 0");
        split(rests, 0, weights(0, 1), "5: 0 5", "-5: 0 -5", "0: 0 0");
        split(rests, 0, weights(1, 1, 1, 1, 1, 1, 1, 1), "7: 1 1 1 1 1 1 1 0", "8: 1 1 1 1 1 1 1 1", "9: 2 1 1 1 1 1 1 1", "1: 1 0 0 0 0 0 0 0", "-1: 0 0 0 0 0 0 0 -1", "-7: 0 -1 -1 -1 -1 -1 -1 -1");
        split(rests, 0, weights(9), "7: 7", "-7: -7", "0: 0");
        String order = "1: likewise to the first PARTS in order with a WEIGHT above 0.";
        split(order, 1, weights(0, 1, 0, 1), "1: 0 1 0 0", "2: 0 1 0 1", "3: 0 2 0 1", "-1: 0 0 0 -1", "0: 0 0 0 0");
        split(order, 1, weights(1, 999), "1: 1 0", "999: 1 998", "1000: 1 999", "1001: 2 999", "-1: 0 -1");
        split(order, 1, weights(1, 1, 1, 1, 1, 1, 1, 1), "7: 1 1 1 1 1 1 1 0", "-1: 0 0 0 0 0 0 0 -1", "-7: 0 -1 -1 -1 -1 -1 -1 -1");
        split(order, 1, weights(0, 0, 0, 0, 0, 0, 0, 3), "5: 0 0 0 0 0 0 0 5", "-5: 0 0 0 0 0 0 0 -5");
        String last = "2: each PART is its SHARE ROUNDED by MODE 0, but the last one takes what is left.";
        split(last, 2, weights(1, 1), "1: 1 0", "-1: -1 0", "3: 2 1", "-3: -2 -1", "2: 1 1", "0: 0 0");
        split(last, 2, weights(1, 1, 1, 1, 1, 1, 1, 1), "3: 0 0 0 0 0 0 0 3", "4: 1 1 1 1 1 1 1 -3", "5: 1 1 1 1 1 1 1 -2", "-4: -1 -1 -1 -1 -1 -1 -1 3", "-3: 0 0 0 0 0 0 0 -3");
        split(last, 2, weights(1, 1, 0), "1: 1 1 -1", "2: 1 1 0", "-1: -1 -1 1");
        split(last, 2, weights(9), "7: 7", "-7: -7");
        String first = "3: likewise, but the first one.";
        split(first, 3, weights(1, 1), "1: 0 1", "-1: 0 -1", "3: 1 2", "2: 1 1", "0: 0 0");
        split(first, 3, weights(1, 1, 1, 1, 1, 1, 1, 1), "3: 3 0 0 0 0 0 0 0", "4: -3 1 1 1 1 1 1 1", "-4: 3 -1 -1 -1 -1 -1 -1 -1");
        split(first, 3, weights(0, 1, 1), "1: -1 1 1", "2: 0 1 1", "-1: 1 -1 -1");
        split(first, 3, weights(9), "7: 7", "-7: -7");
    }
}
