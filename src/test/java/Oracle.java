import java.math.BigInteger;
import java.util.ArrayList;
import java.util.Arrays;
import java.util.List;
import java.util.TreeMap;

/** The document once more, written for plainness alone with the Java library: what PennyJudge is held against. */
final class Oracle {
    static final BigInteger TOP = BigInteger.TWO.pow(40);
    static final BigInteger DEEP = BigInteger.TWO.pow(20);

    /** An exact fraction in lowest terms. */
    record Amount(BigInteger up, BigInteger low) {
        static Amount of(BigInteger up, BigInteger low) {
            BigInteger g = up.gcd(low);
            return new Amount(up.divide(g), low.divide(g));
        }

        static Amount of(long n) {
            return new Amount(BigInteger.valueOf(n), BigInteger.ONE);
        }

        Amount plus(Amount o) {
            return of(up.multiply(o.low).add(o.up.multiply(low)), low.multiply(o.low));
        }

        Amount times(Amount o) {
            return of(up.multiply(o.up), low.multiply(o.low));
        }

        Amount negated() {
            return new Amount(up.negate(), low);
        }

        int compare(Amount o) {
            return up.multiply(o.low).compareTo(o.up.multiply(low));
        }

        boolean isWhole() {
            return low.equals(BigInteger.ONE);
        }

        BigInteger floor() {
            BigInteger[] both = up.divideAndRemainder(low);
            return both[1].signum() < 0 ? both[0].subtract(BigInteger.ONE) : both[0];
        }

        boolean isSpent() {
            return up.abs().compareTo(TOP) > 0 || low.compareTo(DEEP) > 0;
        }

        Amount rounded(long m, int mode) {
            Amount step = of(m);
            Amount lower = of(times(of(BigInteger.ONE, BigInteger.valueOf(m))).floor(), BigInteger.ONE).times(step);
            if (lower.compare(this) == 0) {
                return lower;
            }
            Amount upper = lower.plus(step);
            Amount near = lower.up.abs().compareTo(upper.up.abs()) < 0 ? lower : upper;
            Amount far = near == lower ? upper : lower;
            int nearer = plus(lower.negated()).compare(upper.plus(negated()));
            if (mode < 2 && nearer != 0) {
                return nearer < 0 ? lower : upper;
            }
            switch (mode) {
                case 0:
                case 3:
                    return far;
                case 1:
                    return lower.up.divide(BigInteger.valueOf(m)).testBit(0) ? upper : lower;
                case 2:
                    return near;
                case 4:
                    return lower;
                default:
                    return upper;
            }
        }
    }

    static final Amount ZERO = Amount.of(0);

    static final class Prog {
        List<int[]> acts = new ArrayList<>();
        Amount carried = ZERO;
    }

    /** What a run leaves behind. */
    static final class Outcome {
        Amount[] slots = new Amount[8];
        boolean[] shown = new boolean[8];
        BigInteger[] parts = new BigInteger[8];
        Amount[] results = new Amount[12];
        BigInteger[] accounts = new BigInteger[8];
        Amount carried;
        int leaks;
        int failedAct = -2;
        int code;
        BigInteger splitOf;
        int[] splitBy;

        Outcome() {
            Arrays.fill(slots, ZERO);
            Arrays.fill(parts, BigInteger.ZERO);
            Arrays.fill(results, ZERO);
            Arrays.fill(accounts, BigInteger.ZERO);
        }
    }

    static final class Failure extends Exception {
        final int code;

        Failure(int code) {
            super("", null, false, false);
            this.code = code;
        }
    }

    static final class Held {
        int sort;
        long[] row;
        BigInteger[] accounts;
        int leaks;
        List<Amount> carried;
    }

    int[][] rates = new int[8][];
    List<Integer> lines = new ArrayList<>();
    List<List<Integer>> sets = new ArrayList<>();
    List<Prog> programs = new ArrayList<>();
    BigInteger[] accounts = new BigInteger[8];
    int leaks;
    int refusals;
    Outcome last = new Outcome();
    Held[] tapes = new Held[6];

    Oracle() {
        begin();
    }

    void begin() {
        for (int k = 0; k < 8; k++) {
            rates[k] = new int[] {0, 1};
        }
        lines = new ArrayList<>();
        sets = new ArrayList<>();
        for (int k = 0; k < 4; k++) {
            sets.add(new ArrayList<>(List.of(1, 1)));
        }
        programs = new ArrayList<>();
        Arrays.fill(accounts, BigInteger.ZERO);
        leaks = 0;
        refusals = 0;
        last = new Outcome();
    }

    Amount rateOf(int k) {
        return Amount.of(BigInteger.valueOf(rates[k][0]), BigInteger.valueOf(rates[k][1]));
    }

    int[] weightsOf(int k) {
        int[] w = sets.get(k).stream().mapToInt(Integer::intValue).toArray();
        return Arrays.stream(w).sum() == 0 ? new int[] {1, 1} : w;
    }

    static Amount check(Amount x) throws Failure {
        if (x.isSpent()) {
            throw new Failure(-6);
        }
        return x;
    }

    Outcome perform(Prog p, List<Integer> bill, BigInteger[] accountsAhead, Amount carriedAhead) {
        Outcome o = new Outcome();
        o.accounts = accountsAhead.clone();
        o.carried = carriedAhead;
        boolean[] partsShown = new boolean[1];
        for (int i = 0; i < p.acts.size(); i++) {
            try {
                doAct(o, p.acts.get(i), bill, partsShown);
            } catch (Failure f) {
                o.code = f.code;
                o.failedAct = i;
                o.accounts = accountsAhead.clone();
                o.carried = carriedAhead;
                o.leaks = 0;
                return o;
            }
        }
        return o;
    }

    void doAct(Outcome o, int[] act, List<Integer> bill, boolean[] partsShown) throws Failure {
        int s = act[1], t = act[2], v = act[3];
        Amount x = o.slots[s];
        switch (act[0]) {
            case 0: {
                Amount sum = ZERO;
                for (int l : bill) {
                    sum = sum.plus(Amount.of(l));
                }
                o.slots[s] = check(sum);
                o.shown[s] = false;
                break;
            }
            case 1:
            case 2: {
                Amount sum = ZERO;
                Amount upTo = ZERO;
                for (int i = 0; i < bill.size(); i++) {
                    upTo = upTo.plus(Amount.of(bill.get(i)));
                    Amount base = act[0] == 1 ? Amount.of(bill.get(i)) : upTo;
                    Amount r = base.times(rateOf(t)).rounded(1, v);
                    if (act[0] == 2) {
                        for (int j = 0; j < i; j++) {
                            r = r.plus(o.results[j].negated());
                        }
                    }
                    o.results[i] = check(r);
                    sum = sum.plus(r);
                }
                o.slots[s] = check(sum);
                o.shown[s] = false;
                break;
            }
            case 3: {
                o.slots[s] = check(o.slots[t].times(rateOf(v)));
                o.shown[s] = o.shown[t];
                break;
            }
            case 4:
                o.slots[s] = check(x.rounded(v, t));
                break;
            case 5: {
                o.slots[s] = check(x.plus(v == 0 ? o.slots[t] : o.slots[t].negated()));
                o.shown[s] = o.shown[s] || o.shown[t];
                break;
            }
            case 6: {
                if (!x.isWhole()) {
                    throw new Failure(-5);
                }
                o.parts = parts(x.up, weightsOf(v), t);
                o.splitOf = x.up;
                o.splitBy = weightsOf(v);
                partsShown[0] = o.shown[s];
                break;
            }
            case 7:
                o.slots[s] = check(Amount.of(o.parts[t], BigInteger.ONE));
                o.shown[s] = partsShown[0];
                break;
            case 8: {
                Amount sum = check(o.carried.plus(x));
                Amount whole = Amount.of(sum.floor(), BigInteger.ONE);
                o.carried = check(sum.plus(whole.negated()));
                o.slots[s] = check(whole);
                break;
            }
            case 9: {
                int c = x.compare(Amount.of(v));
                if (t == 0 && c > 0 || t == 1 && c < 0) {
                    o.slots[s] = Amount.of(v);
                }
                break;
            }
            case 10: {
                if (!x.isWhole()) {
                    throw new Failure(-5);
                }
                o.accounts[t] = v == 0 ? o.accounts[t].add(x.up) : o.accounts[t].subtract(x.up);
                if (o.shown[s]) {
                    o.leaks++;
                }
                break;
            }
            case 11:
                o.slots[s] = check(o.slots[t].rounded(1, v));
                o.shown[s] = true;
                break;
            default:
                for (int k = 0; k < v; k++) {
                    o.slots[s] = check(o.slots[s].plus(o.slots[s].times(rateOf(t)).rounded(1, 1)));
                }
        }
    }

    static BigInteger[] parts(BigInteger x, int[] w, int rule) {
        BigInteger[] parts = new BigInteger[8];
        Arrays.fill(parts, BigInteger.ZERO);
        int total = Arrays.stream(w).sum();
        Amount[] shares = new Amount[w.length];
        for (int i = 0; i < w.length; i++) {
            shares[i] = Amount.of(x.multiply(BigInteger.valueOf(w[i])), BigInteger.valueOf(total));
        }
        if (rule >= 2) {
            int taker = rule == 2 ? w.length - 1 : 0;
            BigInteger left = x;
            for (int i = 0; i < w.length; i++) {
                if (i != taker) {
                    parts[i] = shares[i].rounded(1, 0).up();
                    left = left.subtract(parts[i]);
                }
            }
            parts[taker] = left;
            return parts;
        }
        BigInteger left = x;
        for (int i = 0; i < w.length; i++) {
            parts[i] = shares[i].floor();
            left = left.subtract(parts[i]);
        }
        List<Integer> queue = new ArrayList<>();
        for (int i = 0; i < w.length; i++) {
            if (rule == 0 || w[i] > 0) {
                queue.add(i);
            }
        }
        if (rule == 0) {
            Amount[] rests = new Amount[w.length];
            for (int i = 0; i < w.length; i++) {
                rests[i] = shares[i].plus(Amount.of(parts[i].negate(), BigInteger.ONE));
            }
            queue.sort((a, b) -> rests[b].compare(rests[a]));
        }
        for (int k = 0; k < left.intValueExact(); k++) {
            int i = queue.get(k);
            parts[i] = parts[i].add(BigInteger.ONE);
        }
        return parts;
    }

    static double roundDouble(double x, int m, int mode) {
        double y = x / m;
        double r;
        switch (mode) {
            case 4:
                r = Math.floor(y);
                break;
            case 5:
                r = Math.ceil(y);
                break;
            case 2:
                r = y > 0.0 ? Math.floor(y) : Math.ceil(y);
                break;
            case 3:
                r = y > 0.0 ? Math.ceil(y) : Math.floor(y);
                break;
            case 1:
                r = Math.rint(y);
                break;
            default:
                r = !(y < 0.0) ? Math.floor(y + 0.5) : Math.ceil(y - 0.5);
        }
        return r * m;
    }

    static double keep(double x) {
        return Math.max(-1125899906842624.0, Math.min(1125899906842624.0, x));
    }

    long[] performByDoubles(Prog p, List<Integer> bill) {
        double[] slots = new double[8];
        double[] results = new double[12];
        double carried = 0.0;
        long[] acc = new long[8];
        BigInteger[] parts = new BigInteger[8];
        Arrays.fill(parts, BigInteger.ZERO);
        for (int[] act : p.acts) {
            int s = act[1], t = act[2], v = act[3];
            switch (act[0]) {
                case 0: {
                    double sum = 0.0;
                    for (int l : bill) {
                        sum += (double) l;
                    }
                    slots[s] = sum;
                    break;
                }
                case 1: {
                    double sum = 0.0;
                    for (int i = 0; i < bill.size(); i++) {
                        results[i] = roundDouble((double) bill.get(i) * doubleRate(t), 1, v);
                        sum += results[i];
                    }
                    slots[s] = sum;
                    break;
                }
                case 2: {
                    double upTo = 0.0;
                    double ahead = 0.0;
                    for (int i = 0; i < bill.size(); i++) {
                        upTo += (double) bill.get(i);
                        results[i] = roundDouble(upTo * doubleRate(t), 1, v) - ahead;
                        ahead += results[i];
                    }
                    slots[s] = ahead;
                    break;
                }
                case 3:
                    slots[s] = slots[t] * doubleRate(v);
                    break;
                case 4:
                    slots[s] = roundDouble(slots[s], v, t);
                    break;
                case 5:
                    slots[s] = v == 0 ? slots[s] + slots[t] : slots[s] - slots[t];
                    break;
                case 6: {
                    long x = (long) slots[s];
                    if (x > (1L << 40) || x < -(1L << 40)) {
                        x = 0;
                    }
                    parts = parts(BigInteger.valueOf(x), weightsOf(v), t);
                    break;
                }
                case 7:
                    slots[s] = (double) parts[t].longValueExact();
                    break;
                case 8: {
                    double sum = carried + slots[s];
                    slots[s] = Math.floor(sum);
                    carried = sum - slots[s];
                    break;
                }
                case 9:
                    if (t == 0 && slots[s] > v || t == 1 && slots[s] < v) {
                        slots[s] = v;
                    }
                    break;
                case 10:
                    acc[t] += v == 0 ? (long) slots[s] : -(long) slots[s];
                    break;
                case 11:
                    slots[s] = roundDouble(slots[t], 1, v);
                    break;
                default:
                    for (int k = 0; k < v; k++) {
                        slots[s] = keep(slots[s] + roundDouble(slots[s] * doubleRate(t), 1, 1));
                    }
            }
            slots[s] = keep(slots[s]);
        }
        return acc;
    }

    double doubleRate(int k) {
        return (double) rates[k][0] / (double) rates[k][1];
    }

    Outcome fresh(Prog p, List<Integer> bill) {
        BigInteger[] zeros = new BigInteger[8];
        Arrays.fill(zeros, BigInteger.ZERO);
        return perform(p, bill, zeros, ZERO);
    }

    boolean breaks(Prog p, int law, Prog other, int a) {
        Outcome o = fresh(p, List.of(a));
        boolean failed = o.code != 0;
        switch (law) {
            case 0:
                return !failed && Arrays.stream(o.accounts).reduce(BigInteger.ZERO, BigInteger::add).signum() != 0;
            case 1: {
                Outcome m = fresh(p, List.of(-a));
                if (failed || m.code != 0) {
                    return failed != (m.code != 0);
                }
                for (int k = 0; k < 8; k++) {
                    if (!o.accounts[k].equals(m.accounts[k].negate())) {
                        return true;
                    }
                }
                return false;
            }
            case 2: {
                Outcome m = fresh(other, List.of(a));
                if (failed || m.code != 0) {
                    return failed != (m.code != 0);
                }
                return !Arrays.equals(o.accounts, m.accounts);
            }
            case 3: {
                if (failed || o.splitOf == null) {
                    return false;
                }
                int total = Arrays.stream(o.splitBy).sum();
                for (int i = 0; i < o.splitBy.length; i++) {
                    Amount share = Amount.of(o.splitOf.multiply(BigInteger.valueOf(o.splitBy[i])), BigInteger.valueOf(total));
                    Amount gap = share.plus(Amount.of(o.parts[i].negate(), BigInteger.ONE));
                    if (gap.compare(Amount.of(1)) >= 0 || gap.compare(Amount.of(-1)) <= 0) {
                        return true;
                    }
                }
                return false;
            }
            case 4:
                return failed;
            case 5:
                return !failed && o.leaks > 0;
            default: {
                if (failed) {
                    return false;
                }
                long[] d = performByDoubles(p, List.of(a));
                for (int k = 0; k < 8; k++) {
                    if (!o.accounts[k].equals(BigInteger.valueOf(d[k]))) {
                        return true;
                    }
                }
                return false;
            }
        }
    }

    int first(Prog p, int law, Prog other, int from, int to) {
        for (int a = from; a <= to; a++) {
            if (breaks(p, law, other, a)) {
                return a;
            }
        }
        return 9999999;
    }

    boolean has(int program) {
        return program >= 0 && program < programs.size();
    }

    boolean isSpan(int from, int to, int most) {
        return Math.abs((long) from) <= 1000000 && Math.abs((long) to) <= 1000000 && to >= from && (long) to - from <= most;
    }

    static boolean in(long x, long from, long to) {
        return x >= from && x <= to;
    }

    static boolean fits(int kind, int t, int v) {
        switch (kind) {
            case 0:
            case 8:
                return t == 0 && v == 0;
            case 1:
            case 2:
            case 11:
                return in(t, 0, 7) && in(v, 0, 5);
            case 3:
                return in(t, 0, 7) && in(v, 0, 7);
            case 4:
                return in(t, 0, 5) && in(v, 1, 100);
            case 5:
            case 10:
                return in(t, 0, 7) && in(v, 0, 1);
            case 6:
                return in(t, 0, 3) && in(v, 0, 3);
            case 7:
                return in(t, 0, 7) && v == 0;
            case 9:
                return in(t, 0, 1) && in(v, 0, 1000000);
            case 12:
                return in(t, 0, 7) && in(v, 1, 30);
            default:
                return false;
        }
    }

    int runOnce(Prog p) {
        Outcome o = perform(p, lines, accounts, p.carried);
        last = o;
        accounts = o.accounts.clone();
        p.carried = o.carried;
        leaks += o.leaks;
        return o.code;
    }

    int order(Prog p) {
        List<List<Integer>> orders = new ArrayList<>();
        permute(new ArrayList<>(), lines.size(), orders);
        Outcome first = fresh(p, lines);
        for (int number = 0; number < orders.size(); number++) {
            List<Integer> bill = new ArrayList<>();
            for (int i : orders.get(number)) {
                bill.add(lines.get(i));
            }
            Outcome o = fresh(p, bill);
            boolean other = (o.code != 0) != (first.code != 0) || !Arrays.equals(o.accounts, first.accounts);
            for (int place = 0; place < bill.size(); place++) {
                other |= !o.results[place].equals(first.results[orders.get(number).get(place)]);
            }
            if (other) {
                return number;
            }
        }
        return 9999999;
    }

    static void permute(List<Integer> head, int n, List<List<Integer>> all) {
        if (head.size() == n) {
            all.add(new ArrayList<>(head));
        }
        for (int i = 0; i < n; i++) {
            if (!head.contains(i)) {
                head.add(i);
                permute(head, n, all);
                head.remove(head.size() - 1);
            }
        }
    }

    /** By the sums of the lines themselves, so without a thought on what comes again. */
    int drift(int rate, int mode, int n, int most, int what) {
        TreeMap<Integer, Long> best = new TreeMap<>();
        best.put(0, 0L);
        long[] f = new long[n * most + 1];
        for (int x = 0; x < f.length; x++) {
            f[x] = Amount.of(x).times(rateOf(rate)).rounded(1, mode).up().longValueExact();
        }
        long[] now = new long[f.length];
        long sign = what == 0 ? 1 : -1;
        int reach = 0;
        for (int k = 0; k < n; k++) {
            long[] next = new long[f.length];
            Arrays.fill(next, Long.MIN_VALUE);
            for (int sum = 0; sum <= reach; sum++) {
                for (int x = 0; x <= most; x++) {
                    next[sum + x] = Math.max(next[sum + x], now[sum] + sign * f[x]);
                }
            }
            reach += most;
            now = next;
        }
        long greatest = Long.MIN_VALUE;
        for (int sum = 0; sum <= reach; sum++) {
            greatest = Math.max(greatest, now[sum] - sign * f[sum]);
        }
        return (int) (sign * greatest);
    }

    int mend(Prog p, int law, int from, int to) {
        if (first(p, law, p, from, to) == 9999999) {
            return 9999999;
        }
        for (int i = 0; i < p.acts.size(); i++) {
            int[] act = p.acts.get(i);
            int field = act[0] == 1 || act[0] == 2 || act[0] == 11 ? 3 : act[0] == 4 || act[0] == 6 ? 2 : -1;
            for (int c = 0; field >= 0 && c < (act[0] == 6 ? 4 : 6); c++) {
                if (c != act[field]) {
                    Prog changed = new Prog();
                    changed.acts.addAll(p.acts);
                    int[] copy = act.clone();
                    copy[field] = c;
                    changed.acts.set(i, copy);
                    if (first(changed, law, changed, from, to) == 9999999) {
                        return 10 * i + c;
                    }
                }
            }
        }
        return -3;
    }

    int refuse(int code) {
        refusals++;
        return code;
    }

    static final String ARGUMENT = "throws.IllegalArgumentException";
    static final String STATE = "throws.IllegalStateException";

    /** The answer that is due to a call, as a text. */
    String call(String name, long[] a) {
        int x = a.length > 0 ? (int) a[0] : 0;
        int y = a.length > 1 ? (int) a[1] : 0;
        int z = a.length > 2 ? (int) a[2] : 0;
        int u = a.length > 3 ? (int) a[3] : 0;
        int w = a.length > 4 ? (int) a[4] : 0;
        switch (name) {
            case "account":
                return in(x, 0, 7) ? accounts[x].toString() : ARGUMENT;
            case "slot":
                if (!in(x, 0, 7) || !in(y, 0, 2)) {
                    return ARGUMENT;
                }
                return y == 2 ? (last.shown[x] ? "1" : "0") : (y == 0 ? last.slots[x].up() : last.slots[x].low()).toString();
            case "part":
                return in(x, 0, 7) ? last.parts[x].toString() : ARGUMENT;
            case "got":
                return in(x, 0, 11) ? last.results[x].up().toString() : ARGUMENT;
            case "carried":
                if (!has(x) || !in(y, 0, 1)) {
                    return ARGUMENT;
                }
                return (y == 0 ? programs.get(x).carried.up() : programs.get(x).carried.low()).toString();
            case "drift":
                if (!in(x, 0, 7) || rates[x][1] > 100 || !in(y, 0, 5) || !in(z, 1, 12) || !in(u, 0, 1000) || !in(w, 0, 1)) {
                    return ARGUMENT;
                }
                return "" + drift(x, y, z, u, w);
            case "rounded":
                if (!in(a[0], -1000000000000L, 1000000000000L) || !in(y, 1, 1000000) || !in(z, 1, 1000000) || !in(u, 0, 5)) {
                    return ARGUMENT;
                }
                return Amount.of(BigInteger.valueOf(a[0]), BigInteger.valueOf(y)).rounded(z, u).up().toString();
            case "at":
                if (!in(x, 0, 5)) {
                    return ARGUMENT;
                }
                if (tapes[x] == null || tapes[x].sort == 5 || !in(y, 0, tapes[x].row.length - 1)) {
                    return STATE;
                }
                return "" + tapes[x].row[y];
            case "tape":
            case "image":
            case "back":
            case "toss":
            case "load":
            case "clear":
            case "put":
            case "copy":
                return "" + tapeCall(name, a, x, y, z, u, w);
            default:
                return "" + plainCall(name, x, y, z, u, w);
        }
    }

    int plainCall(String name, int x, int y, int z, int u, int w) {
        switch (name) {
            case "begin":
                begin();
                return 0;
            case "rate":
                if (!in(x, 0, 7) || !in(y, 0, 10000) || !in(z, 1, 1000)) {
                    return -1;
                }
                rates[x] = new int[] {y, z};
                return 0;
            case "line":
                if (!in(x, -1000000, 1000000)) {
                    return -1;
                }
                if (lines.size() == 12) {
                    return -2;
                }
                lines.add(x);
                return lines.size();
            case "bare": {
                int had = lines.size();
                lines.clear();
                return had;
            }
            case "weight":
                if (!in(x, 0, 3) || !in(y, -1, 1000)) {
                    return -1;
                }
                if (y == -1) {
                    sets.get(x).clear();
                    return 0;
                }
                if (sets.get(x).size() == 8) {
                    return -2;
                }
                sets.get(x).add(y);
                return sets.get(x).size();
            case "program":
                if (programs.size() == 4) {
                    return -2;
                }
                programs.add(new Prog());
                return programs.size() - 1;
            case "act":
                if (!has(x) || !in(z, 0, 7) || !fits(y, u, w)) {
                    return -1;
                }
                if (programs.get(x).acts.size() == 20) {
                    return -2;
                }
                programs.get(x).acts.add(new int[] {y, z, u, w});
                return programs.get(x).acts.size();
            case "set":
                if (!has(x) || !in(y, 0, programs.get(x).acts.size() - 1) || !fits(programs.get(x).acts.get(y)[0], z, u)) {
                    return -1;
                }
                programs.get(x).acts.get(y)[2] = z;
                programs.get(x).acts.get(y)[3] = u;
                return 0;
            case "told":
                if (!has(x) || !in(y, 0, programs.get(x).acts.size() - 1) || !in(z, 0, 3)) {
                    return -1;
                }
                return programs.get(x).acts.get(y)[z];
            case "run": {
                if (!has(x)) {
                    return -1;
                }
                int code = runOnce(programs.get(x));
                return code == 0 ? programs.get(x).acts.size() : code;
            }
            case "years": {
                if (!has(x) || !in(y, 0, 40)) {
                    return -1;
                }
                int good = 0;
                while (good < y && runOnce(programs.get(x)) == 0) {
                    good++;
                }
                return good;
            }
            case "failed":
                return last.failedAct;
            case "least":
                if (!has(x) || !in(y, 0, 6) || (y == 2 ? !has(z) : z != -1) || !isSpan(u, w, 2000)) {
                    return -1;
                }
                return first(programs.get(x), y, y == 2 ? programs.get(z) : null, u, w);
            case "order":
                return !has(x) ? -1 : lines.size() > 6 ? -2 : order(programs.get(x));
            case "mend":
                return !has(x) || !in(y, 0, 6) || y == 2 || !isSpan(z, u, 300) ? -1 : mend(programs.get(x), y, z, u);
            case "same":
                if (!has(x) || !has(y)) {
                    return -1;
                }
                return Arrays.deepEquals(programs.get(x).acts.toArray(), programs.get(y).acts.toArray()) ? 1 : 0;
            case "count":
                if (in(x, 10, 9 + programs.size())) {
                    return programs.get(x - 10).acts.size();
                }
                if (in(x, 20, 23)) {
                    return sets.get(x - 20).size();
                }
                return x == 0 ? lines.size() : x == 1 ? programs.size() : x == 2 ? leaks : x == 3 ? refusals : -1;
            default:
                throw new AssertionError(name);
        }
    }

    int tapeCall(String name, long[] a, int x, int y, int z, int u, int w) {
        if (!in(x, 0, 5) || name.equals("copy") && !in(z, 0, 5)) {
            return -1;
        }
        Held h = tapes[x];
        switch (name) {
            case "tape":
                if (!in(y, 1, 4) || z > 64) {
                    return -1;
                }
                if (z < 0) {
                    return refuse(-14);
                }
                tapes[x] = new Held();
                tapes[x].sort = y;
                tapes[x].row = new long[z];
                return z;
            case "image":
                h = new Held();
                h.sort = 5;
                h.accounts = accounts.clone();
                h.leaks = leaks;
                h.carried = new ArrayList<>();
                for (Prog p : programs) {
                    h.carried.add(p.carried);
                }
                tapes[x] = h;
                return programs.size();
            case "clear":
                tapes[x] = null;
                return h == null ? 0 : h.sort;
            case "load":
                if (!in(y, Integer.MIN_VALUE, Integer.MAX_VALUE) || !in(z, 0, 12)) {
                    return -1;
                }
                break;
            default:
                break;
        }
        if (h == null || name.equals("copy") && tapes[z] == null) {
            return refuse(-11);
        }
        switch (name) {
            case "back":
                if (h.sort != 5) {
                    return refuse(-12);
                }
                if (h.carried.size() > programs.size()) {
                    return -3;
                }
                accounts = h.accounts.clone();
                leaks = h.leaks;
                for (int k = 0; k < programs.size(); k++) {
                    programs.get(k).carried = k < h.carried.size() ? h.carried.get(k) : ZERO;
                }
                return leaks;
            case "toss":
                if (h.sort != 5) {
                    return refuse(-12);
                }
                return h.leaks == 0 ? refuse(-15) : h.leaks;
            case "load": {
                if (h.sort == 1 || h.sort == 5) {
                    return refuse(-12);
                }
                if (y < 0 || (long) y + z > h.row.length) {
                    return refuse(-13);
                }
                List<Integer> bill = new ArrayList<>();
                for (int k = y; k < y + z; k++) {
                    if (!in(h.row[k], -1000000, 1000000)) {
                        return -3;
                    }
                    bill.add((int) h.row[k]);
                }
                lines = bill;
                return z;
            }
            case "put":
                if (h.sort == 5) {
                    return refuse(-12);
                }
                if (!in(y, 0, h.row.length - 1)) {
                    return refuse(-13);
                }
                h.row[y] = h.sort == 1 ? (byte) a[2] : h.sort == 2 ? (short) a[2] : h.sort == 3 ? (int) a[2] : a[2];
                return 1;
            default: {
                Held e = tapes[z];
                if (h.sort == 5 || e.sort == 5 || h.sort != e.sort) {
                    return refuse(-12);
                }
                if (w < 0 || y < 0 || u < 0 || (long) y + w > h.row.length || (long) u + w > e.row.length) {
                    return refuse(-13);
                }
                long[] before = h.row.clone();
                for (int k = 0; k < w; k++) {
                    e.row[u + k] = before[y + k];
                }
                return w;
            }
        }
    }
}
