import java.util.ArrayList;
import java.util.Arrays;
import java.util.List;
import java.util.Random;
import java.util.TreeMap;

/** Runs of random calls, each answer held against Oracle's; an argument multiplies how many runs there are. */
public final class RandomRunsTest {
    private static final int CALLS = 420;
    private static final String[] ALL = {"begin", "rate", "line", "bare", "weight", "program", "act", "set", "told", "run",
        "years", "failed", "account", "slot", "part", "got", "carried", "least", "order", "drift", "mend", "same", "rounded",
        "tape", "image", "back", "toss", "load", "clear", "put", "at", "copy", "count"};
    private static final int[][] RATES = {{1, 3}, {7, 100}, {19, 100}, {1, 2}, {1, 7}, {10000, 1}, {3, 1000}, {25, 10}, {5, 1000},
        {0, 1}, {1, 1}, {9999, 1000}, {15, 100}, {1, 8}, {11, 12}, {9973, 997}, {1, 997},
        {3, 1}, {7, 1}, {100, 1}, {49, 1}, {1, 49}, {1, 10}, {100, 7}};

    private static final List<String> NUMBERS = List.of("account", "slot", "part", "got", "carried", "drift", "rounded", "least", "mend");

    private final Random random;
    private final PennyJudge judge = new PennyJudge();
    private final Oracle oracle = new Oracle();
    private final List<String> told = new ArrayList<>();
    private final TreeMap<String, Integer> seen;
    private boolean wrong;

    private RandomRunsTest(long seed, TreeMap<String, Integer> seen) {
        random = new Random(seed);
        this.seen = seen;
    }

    private int pick(int from, int to) {
        return from + random.nextInt(to - from + 1);
    }

    private boolean chance(int percent) {
        return random.nextInt(100) < percent;
    }

    /** Mostly a number of the span, at times one just beyond it or far away. */
    private int near(int from, int to) {
        if (chance(94)) {
            return pick(from, to);
        }
        int[] odd = {from - 1, to + 1, from, to, Integer.MIN_VALUE, Integer.MAX_VALUE, -1, 0};
        return odd[random.nextInt(odd.length)];
    }

    private int aProgram() {
        int n = oracle.programs.size();
        return n > 0 && chance(95) ? pick(0, n - 1) : near(0, 3);
    }

    private int aLine() {
        switch (random.nextInt(5)) {
            case 0:
                return near(-1000000, 1000000);
            case 1:
                return pick(-1000, 1000);
            default:
                return pick(-120, 120);
        }
    }

    private void call(String name, long... a) {
        if (wrong) {
            return;
        }
        String due = oracle.call(name, a);
        String got = Caller.call(judge, name, a);
        told.add(name + Arrays.toString(a) + " answered " + got);
        boolean codes = !NUMBERS.contains(name) && due.startsWith("-") && due.length() < 4;
        seen.merge(name + (due.startsWith("throws") || codes ? " " + due : ""), 1, Integer::sum);
        if (name.equals("least") || name.equals("mend")) {
            boolean found = !due.equals("-1") && !due.equals("-3") && !due.equals("9999999");
            seen.merge(name + " law " + a[1] + (found ? " found" : due.equals("9999999") ? " holds" : " other"), 1, Integer::sum);
        }
        if (!due.equals(got)) {
            wrong = true;
            told.forEach(System.out::println);
            System.out.println("  but due is " + due);
        }
    }

    private void act(int program, int kind, int s) {
        int[] tMost = {0, 7, 7, 7, 5, 7, 3, 7, 0, 1, 7, 7, 7};
        int[] vLeast = {0, 0, 0, 0, 1, 0, 0, 0, 0, 0, 0, 0, 1};
        int[] vMost = {0, 5, 5, 7, 100, 1, 3, 0, 0, 1000000, 1, 5, 30};
        int t = kind >= 0 && kind <= 12 ? near(0, tMost[kind]) : 0;
        int v = kind >= 0 && kind <= 12 ? near(vLeast[kind], vMost[kind]) : 0;
        boolean tIsSlot = kind == 3 || kind == 5 || kind == 11;
        if (tIsSlot && chance(70)) {
            t = pick(0, 2);
        }
        if (kind == 4 && chance(70)) {
            v = pick(1, 5);
        }
        if (kind == 9 && chance(70)) {
            v = pick(0, 100);
        }
        call("act", program, kind, s, t, v);
    }

    /** A program that is likely to book something. */
    private void sensibleProgram() {
        int p = oracle.programs.size();
        call("program");
        if (chance(20) && p > 0) {
            for (int[] a : new ArrayList<>(oracle.programs.get(p - 1).acts)) {
                call("act", p, a[0], a[1], a[2], a[3]);
            }
            return;
        }
        if (chance(30)) {
            touchyProgram(p);
            return;
        }
        int filled = chance(80) ? 3 : 1;
        for (int s = 0; s < filled; s++) {
            call("act", p, chance(60) ? 0 : pick(1, 2), s, 0, 0);
        }
        int more = pick(0, 9);
        for (int i = 0; i < more; i++) {
            act(p, chance(4) ? near(0, 12) : chance(35) ? 3 : pick(1, 12), chance(80) ? pick(0, 2) : near(0, 7));
        }
        int slot = pick(0, 2);
        if (chance(50)) {
            call("act", p, 3, slot, pick(0, 2), pick(0, 7));
        }
        if (chance(80)) {
            call("act", p, 4, slot, pick(0, 5), chance(70) ? 1 : pick(1, 10));
        }
        if (chance(40)) {
            call("act", p, 6, slot, pick(0, 3), pick(0, 3));
            for (int i = 0; i < 2; i++) {
                call("act", p, 7, i + 3, chance(80) ? i : pick(0, 7), 0);
                call("act", p, 10, i + 3, i, 0);
            }
        }
        call("act", p, 10, slot, pick(0, 3), pick(0, 1));
    }

    /** A program of fractions that come to middles and whole numbers, where doubles may fail. */
    private void touchyProgram(int p) {
        call("act", p, 0, 0, 0, 0);
        call("act", p, 0, 1, 0, 0);
        for (int i = pick(1, 5); i > 0; i--) {
            call("act", p, 3, pick(0, 1), pick(0, 1), pick(0, 7));
            if (chance(40)) {
                call("act", p, 5, 0, 1, pick(0, 1));
            }
            if (chance(20)) {
                call("act", p, 8, pick(0, 1), 0, 0);
            }
            if (chance(10)) {
                call("act", p, 12, pick(0, 1), pick(0, 7), pick(1, 30));
            }
        }
        int slot = pick(0, 1);
        if (chance(60)) {
            call("act", p, chance(70) ? 4 : 11, slot, chance(50) ? 1 : 0, 1);
        }
        if (chance(20)) {
            call("act", p, 6, slot, pick(0, 3), pick(0, 3));
            call("act", p, 7, slot, pick(0, 2), 0);
        }
        call("act", p, 10, slot, pick(0, 7), pick(0, 1));
    }

    private void someRates() {
        for (int k = 0; k < 8; k++) {
            int[] r = RATES[random.nextInt(RATES.length)];
            call("rate", k, r[0], r[1]);
        }
    }

    private void someWeights() {
        for (int k = 0; k < 4; k++) {
            if (chance(75)) {
                call("weight", k, -1);
                for (int i = pick(0, 8); i > 0; i--) {
                    call("weight", k, chance(70) ? pick(0, 4) : pick(0, 1000));
                }
            }
        }
    }

    private void someTapes() {
        int sort = pick(1, 4);
        for (int d = 0; d < 6; d++) {
            if (chance(80)) {
                call("tape", d, chance(60) ? sort : pick(1, 4), pick(0, 12));
                for (int i = 0; i < 3; i++) {
                    any("put");
                }
            }
        }
    }

    private void any(String name) {
        int p = aProgram();
        switch (name) {
            case "begin":
                if (chance(8)) {
                    call("begin");
                    setUp();
                }
                break;
            case "rate": {
                int[] r = RATES[random.nextInt(RATES.length)];
                boolean known = chance(80);
                call("rate", near(0, 7), known ? r[0] : near(0, 10000), known ? r[1] : near(1, 1000));
                break;
            }
            case "line":
                call("line", aLine());
                break;
            case "bare":
                if (chance(30)) {
                    call("bare");
                }
                break;
            case "weight":
                call("weight", near(0, 3), chance(60) ? pick(-1, 5) : near(-1, 1000));
                break;
            case "program":
                if (chance(40)) {
                    sensibleProgram();
                } else if (chance(20)) {
                    call("program");
                }
                break;
            case "act":
                act(p, near(0, 12), near(0, 7));
                break;
            case "set":
                call("set", p, near(0, 12), near(0, 7), near(0, 6));
                break;
            case "told":
                call("told", p, near(0, 12), near(0, 3));
                break;
            case "run":
                call("run", p);
                look(25);
                break;
            case "years":
                call("years", p, chance(70) ? pick(0, 4) : near(0, 40));
                look(25);
                break;
            case "least": {
                int law = near(0, 6);
                int from = chance(80) ? pick(-300, 100) : near(-1000000, 1000000);
                long to = (long) from + (chance(90) ? pick(0, 150) : near(0, 2000));
                call("least", p, law, chance(97) ? law == 2 ? aProgram() : -1 : near(-1, 4), from, (int) to);
                break;
            }
            case "mend": {
                int from = chance(80) ? pick(-100, 50) : near(-1000000, 1000000);
                long to = (long) from + (chance(90) ? pick(0, 40) : near(0, 300));
                call("mend", p, near(0, 6), from, (int) to);
                break;
            }
            case "order":
                if (oracle.lines.size() > 6 && chance(70)) {
                    call("bare");
                    for (int i = pick(0, 5); i >= 0; i--) {
                        call("line", aLine());
                    }
                }
                call("order", p);
                break;
            case "drift":
                call("drift", near(0, 7), near(0, 5), near(1, 12), chance(70) ? pick(0, 30) : near(0, 100), near(0, 1));
                break;
            case "rounded":
                rounded();
                break;
            case "same":
                call("same", p, aProgram());
                break;
            case "count":
                call("count", chance(50) ? near(0, 3) : near(10, 24));
                break;
            default:
                other(name, p);
        }
    }

    private void rounded() {
        long n = chance(50) ? pick(-100, 100) : (long) ((random.nextDouble() * 2 - 1) * 1e12);
        if (chance(5)) {
            long[] odd = {1000000000000L, 1000000000001L, -1000000000000L, -1000000000001L, Long.MIN_VALUE, Long.MAX_VALUE};
            n = odd[random.nextInt(odd.length)];
        }
        call("rounded", n, chance(70) ? pick(1, 8) : near(1, 1000000), chance(70) ? pick(1, 8) : near(1, 1000000), near(0, 5));
    }

    private void other(String name, int p) {
        int d = near(0, 5);
        switch (name) {
            case "failed":
                call(name);
                break;
            case "account":
            case "part":
                call(name, near(0, 7));
                break;
            case "got":
                call(name, near(0, 11));
                break;
            case "slot":
                call(name, near(0, 7), near(0, 2));
                break;
            case "carried":
                call(name, p, near(0, 1));
                break;
            case "tape":
                call(name, d, near(1, 4), chance(80) ? pick(0, 8) : near(0, 64));
                break;
            case "load":
                call(name, d, chance(60) ? pick(0, 2) : near(0, 8), chance(60) ? pick(0, 4) : near(0, 12));
                break;
            case "put":
                call(name, d, near(0, 8), chance(60) ? pick(-400, 400) : chance(50) ? random.nextLong() : random.nextInt(80000));
                break;
            case "at":
                call(name, d, near(0, 8));
                break;
            case "copy":
                call(name, d, near(0, 5), chance(40) ? d : near(0, 5), near(0, 5), near(0, 5));
                break;
            default:
                call(name, d);
        }
    }

    /** What a run came to: each of its numbers by a chance. */
    private void look(int percent) {
        call("failed");
        call("count", 2);
        for (int k = 0; k < 8; k++) {
            if (chance(percent)) {
                call("account", k);
            }
            if (chance(percent)) {
                call("part", k);
            }
            for (int what = 0; what < 3; what++) {
                if (chance(k < 3 ? 2 * percent : percent)) {
                    call("slot", k, what);
                }
            }
        }
        for (int i = 0; i < 12; i++) {
            if (chance(percent)) {
                call("got", i);
            }
        }
        for (int k = 0; k < oracle.programs.size(); k++) {
            call("carried", k, 0);
            call("carried", k, 1);
        }
    }

    private void setUp() {
        if (chance(90)) {
            someRates();
            someWeights();
            for (int i = pick(0, 5); i > 0; i--) {
                any("line");
            }
            sensibleProgram();
            sensibleProgram();
        }
    }

    private boolean go() {
        setUp();
        if (chance(50)) {
            someTapes();
        }
        while (told.size() < CALLS && !wrong) {
            any(ALL[random.nextInt(ALL.length)]);
        }
        return !wrong;
    }

    public static void main(String[] args) {
        int runs = 500 * (args.length > 0 ? Integer.parseInt(args[0]) : 1);
        long base = args.length > 1 ? Long.parseLong(args[1]) : 20261118L;
        TreeMap<String, Integer> seen = new TreeMap<>();
        for (int i = 0; i < runs; i++) {
            if (!new RandomRunsTest(base + i, seen).go()) {
                System.out.println("in run " + i);
                System.exit(1);
            }
        }
        if (args.length > 0) {
            seen.forEach((what, times) -> System.out.println(what + ": " + times));
        }
        System.out.println(runs + " random runs are as due");
    }
}
