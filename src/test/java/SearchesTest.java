import java.util.Random;

/** What is searched for, on inputs made for it: where doubles fail, how far sums drift, which order matters. */
public final class SearchesTest {
    private static final int[][] RATES = {{7, 100}, {15, 100}, {5, 1000}, {1, 8}, {25, 10}, {1, 3}, {3, 1}, {35, 1000}, {115, 100}, {9999, 7}};
    private static int wrong = 0;
    private static int found = 0;
    private static int calls = 0;

    private static void same(PennyJudge judge, Oracle oracle, String name, long... a) {
        String due = oracle.call(name, a);
        String got = Caller.call(judge, name, a);
        calls++;
        if (!due.equals("9999999")) {
            found++;
        }
        if (!due.equals(got)) {
            wrong++;
            System.out.println(name + java.util.Arrays.toString(a) + " answered " + got + ", due is " + due);
        }
    }

    private static void touchyProgram(PennyJudge judge, Oracle oracle, Random random, int p) {
        same(judge, oracle, "program");
        same(judge, oracle, "act", p, random.nextInt(3), 0, random.nextInt(8), random.nextInt(6));
        same(judge, oracle, "act", p, 0, 0, 0, 0);
        same(judge, oracle, "act", p, 0, 1, 0, 0);
        for (int i = random.nextInt(5); i >= 0; i--) {
            int[] kinds = {3, 3, 3, 3, 4, 5, 5, 6, 7, 8, 8, 9, 12};
            int kind = kinds[random.nextInt(kinds.length)];
            int t = kind == 4 ? random.nextInt(6) : kind == 6 ? random.nextInt(4) : kind == 8 ? 0 : kind == 12 ? random.nextInt(8) : random.nextInt(2);
            int v = kind == 3 ? random.nextInt(8) : kind == 5 ? random.nextInt(2) : kind == 6 ? random.nextInt(4) : kind == 7 || kind == 8 ? 0
                : kind == 9 ? random.nextInt(100) : 1 + random.nextInt(kind == 12 ? 30 : 9);
            same(judge, oracle, "act", p, kind, random.nextInt(2), t, v);
        }
        same(judge, oracle, "act", p, random.nextBoolean() ? 4 : 11, 0, random.nextInt(2), 1);
        same(judge, oracle, "act", p, 10, 0, random.nextInt(8), random.nextInt(2));
    }

    private static void doubles(Random random) {
        PennyJudge judge = new PennyJudge();
        Oracle oracle = new Oracle();
        for (int k = 0; k < 8; k++) {
            int[] r = RATES[random.nextInt(RATES.length)];
            same(judge, oracle, "rate", k, r[0], r[1]);
        }
        same(judge, oracle, "weight", 1, 3);
        same(judge, oracle, "weight", 2, 7);
        for (int p = 0; p < 4; p++) {
            touchyProgram(judge, oracle, random, p);
            int from = random.nextInt(4) == 0 ? random.nextInt(1900000) - 950000 : random.nextInt(400) - 300;
            same(judge, oracle, "least", p, 6, -1, from, from + 150);
            same(judge, oracle, "least", p, 6, -1, from + 151, from + 250);
            same(judge, oracle, "mend", p, 6, from, from + 40);
        }
    }

    private static void drifts(Random random) {
        PennyJudge judge = new PennyJudge();
        Oracle oracle = new Oracle();
        int q = 1 + random.nextInt(100);
        same(judge, oracle, "rate", 0, random.nextInt(random.nextBoolean() ? 200 : 10001), q);
        for (int mode = 0; mode < 6; mode++) {
            int n = 1 + random.nextInt(12);
            int most = random.nextInt(random.nextBoolean() ? 12 : 250);
            same(judge, oracle, "drift", 0, mode, n, most, 0);
            same(judge, oracle, "drift", 0, mode, n, most, 1);
        }
    }

    private static void orders(Random random) {
        PennyJudge judge = new PennyJudge();
        Oracle oracle = new Oracle();
        same(judge, oracle, "program");
        same(judge, oracle, "rate", 0, 1 + random.nextInt(3), 1 + random.nextInt(4));
        same(judge, oracle, "act", 0, 2, 0, 0, random.nextInt(6));
        for (int i = random.nextInt(7); i > 0; i--) {
            int q = oracle.rates[0][1];
            same(judge, oracle, "line", random.nextInt(4) == 0 ? random.nextInt(50) - 25 : q * (random.nextInt(20) - 10));
        }
        same(judge, oracle, "order", 0);
    }

    public static void main(String[] args) {
        Random random = new Random(args.length > 0 ? Long.parseLong(args[0]) : 7);
        for (int i = 0; i < 250; i++) {
            doubles(random);
        }
        for (int i = 0; i < 60; i++) {
            drifts(random);
        }
        for (int i = 0; i < 300; i++) {
            orders(random);
        }
        PennyJudge judge = new PennyJudge();
        Oracle oracle = new Oracle();
        same(judge, oracle, "rate", 0, 1, 100);
        same(judge, oracle, "drift", 0, 1, 12, 1000, 0);
        same(judge, oracle, "drift", 0, 1, 12, 1000, 1);
        System.out.println(calls + " calls, " + found + " with something found, " + wrong + " not as due");
        if (wrong > 0) {
            System.exit(1);
        }
    }
}
