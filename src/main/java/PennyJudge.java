/**
 * A judge of money sums: programs that share, tax, round and book amounts are run exactly and
 * searched for pennies that are lost or made. The document's promises say what each call answers.
 */
public final class PennyJudge {
    public static final int NONE = -1, FULL = -2, UNABLE = -3, WHOLE = -5, SPENT = -6, HOLDS = 9999999;
    public static final int NOTHING = -11, CAST = -12, PLACE = -13, SIZE = -14, THROWN = -15;

    private static final int SUM = 0, TAX = 1, FLOW = 2, RATE = 3, ROUND = 4, ADD = 5, SPLIT = 6;
    private static final int PART = 7, CARRY = 8, CAP = 9, BOOK = 10, SHOW = 11, DAYS = 12;

    private static final int CLOSE = 0, MIRROR = 1, ALIKE = 2, SHARE = 3, FAIL = 4, LEAK = 5, FLOAT = 6;

    private static final int FAR_FROM_ZERO_IF_MIDDLE = 0, EVEN_IF_MIDDLE = 1, NEAR_ZERO = 2, FAR_FROM_ZERO = 3;
    private static final int LOWER = 4, UPPER = 5;

    private static final int BY_RESTS = 0, IN_ORDER = 1, LAST_TAKES = 2;

    private static final int EMPTY = 0, BYTES = 1, SHORTS = 2, INTS = 3, LONGS = 4, IMAGE = 5;

    private static final int RATES = 8, SETS = 4, WEIGHTS = 8, ACCOUNTS = 8, SLOTS = 8, LINES = 12;
    private static final int PROGRAMS = 4, ACTS = 20, TAPES = 6, CELLS = 64, MODES = 6, RULES = 4;
    private static final int LAWS = 7, ORDERED_LINES = 6, DRIFTING_Q = 100, DRIFTING_LINE = 1000;
    private static final int GREATEST_LINE = 1000000, GREATEST_YEARS = 40, LEAST_SPAN = 2000, MEND_SPAN = 300;

    private static final int DONE = 0, UNFAILED = -2;
    private static final long UPPER_LIMIT = 1L << 40, LOWER_LIMIT = 1L << 20;

    // What t and v may be, by the kind of the act; the least t is 0 for every kind.
    private static final int[] T_MOST = {0, 7, 7, 7, 5, 7, 3, 7, 0, 1, 7, 7, 7};
    private static final int[] V_LEAST = {0, 0, 0, 0, 1, 0, 0, 0, 0, 0, 0, 0, 1};
    private static final int[] V_MOST = {0, 5, 5, 7, 100, 1, 3, 0, 0, 1000000, 1, 5, 30};

    private final Tables tables = new Tables();
    private final Bill bill = new Bill();
    private final Ledger ledger = new Ledger();
    private final Program[] programs = new Program[PROGRAMS];
    private final Tape[] tapes = new Tape[TAPES];
    private final Machine last = new Machine();
    private final Trial trial = new Trial();
    private final Drift drifts = new Drift();
    private int programCount;
    private int refusals;

    public PennyJudge() {
        for (int k = 0; k < PROGRAMS; k++) {
            programs[k] = new Program();
        }
        for (int d = 0; d < TAPES; d++) {
            tapes[d] = new Tape();
        }
    }

    public int begin() {
        programCount = 0;
        refusals = 0;
        bill.size = 0;
        tables.reset();
        ledger.reset();
        last.wipe();
        return 0;
    }

    public int rate(int k, int p, int q) {
        if (!isRate(k) || p < 0 || p > 10000 || q < 1 || q > 1000) {
            return NONE;
        }
        tables.p[k] = p;
        tables.q[k] = q;
        return 0;
    }

    public int line(int units) {
        if (!isLine(units)) {
            return NONE;
        }
        if (bill.size >= LINES) {
            return FULL;
        }
        bill.units[bill.size] = units;
        bill.size++;
        return bill.size;
    }

    public int bare() {
        int had = bill.size;
        bill.size = 0;
        return had;
    }

    public int weight(int set, int w) {
        if (set < 0 || set >= SETS || w < -1 || w > 1000) {
            return NONE;
        }
        if (w == -1) {
            tables.sizes[set] = 0;
            return 0;
        }
        if (tables.sizes[set] >= WEIGHTS) {
            return FULL;
        }
        tables.weights[set][tables.sizes[set]] = w;
        tables.sizes[set]++;
        return tables.sizes[set];
    }

    public int program() {
        if (programCount >= PROGRAMS) {
            return FULL;
        }
        programs[programCount].reset();
        programCount++;
        return programCount - 1;
    }

    public int act(int program, int kind, int s, int t, int v) {
        if (!isProgram(program) || kind < SUM || kind > DAYS || !isSlot(s) || !fits(kind, t, v)) {
            return NONE;
        }
        Program p = programs[program];
        if (p.size >= ACTS) {
            return FULL;
        }
        p.kinds[p.size] = kind;
        p.s[p.size] = s;
        p.t[p.size] = t;
        p.v[p.size] = v;
        p.size++;
        return p.size;
    }

    public int set(int program, int i, int t, int v) {
        if (!isAct(program, i) || !fits(programs[program].kinds[i], t, v)) {
            return NONE;
        }
        programs[program].t[i] = t;
        programs[program].v[i] = v;
        return 0;
    }

    public int told(int program, int i, int what) {
        if (!isAct(program, i)) {
            return NONE;
        }
        switch (what) {
            case 0:
                return programs[program].kinds[i];
            case 1:
                return programs[program].s[i];
            case 2:
                return programs[program].t[i];
            case 3:
                return programs[program].v[i];
            default:
                return NONE;
        }
    }

    public int run(int program) {
        if (!isProgram(program)) {
            return NONE;
        }
        int outcome = runOnce(programs[program]);
        return outcome == DONE ? programs[program].size : outcome;
    }

    public int years(int program, int n) {
        if (!isProgram(program) || n < 0 || n > GREATEST_YEARS) {
            return NONE;
        }
        for (int year = 0; year < n; year++) {
            if (runOnce(programs[program]) != DONE) {
                return year;
            }
        }
        return n;
    }

    public int failed() {
        return last.failedAct;
    }

    public long account(int k) throws IllegalArgumentException {
        if (k < 0 || k >= ACCOUNTS) {
            throw new IllegalArgumentException("no such account");
        }
        return ledger.accounts[k];
    }

    public long slot(int s, int what) throws IllegalArgumentException {
        if (!isSlot(s) || what < 0 || what > 2) {
            throw new IllegalArgumentException("no such slot or what");
        }
        if (what == 2) {
            return last.shown[s] ? 1 : 0;
        }
        return what == 0 ? last.uppers[s] : last.lowers[s];
    }

    public long part(int i) throws IllegalArgumentException {
        if (i < 0 || i >= WEIGHTS) {
            throw new IllegalArgumentException("no such part");
        }
        return last.splitter.parts[i];
    }

    public long got(int i) throws IllegalArgumentException {
        if (i < 0 || i >= LINES) {
            throw new IllegalArgumentException("no such line");
        }
        return last.results[i];
    }

    public long carried(int program, int what) throws IllegalArgumentException {
        if (!isProgram(program) || what < 0 || what > 1) {
            throw new IllegalArgumentException("no such program or what");
        }
        return what == 0 ? programs[program].carriedUpper : programs[program].carriedLower;
    }

    public int least(int program, int law, int other, int from, int to) {
        if (!isProgram(program) || !isLaw(law) || !isSpan(from, to, LEAST_SPAN)) {
            return NONE;
        }
        if (law == ALIKE ? !isProgram(other) : other != -1) {
            return NONE;
        }
        Program second = law == ALIKE ? programs[other] : programs[program];
        return trial.firstBreak(tables, programs[program], second, law, from, to);
    }

    public int order(int program) {
        if (!isProgram(program)) {
            return NONE;
        }
        if (bill.size > ORDERED_LINES) {
            return FULL;
        }
        return trial.firstOrderThatMatters(tables, programs[program], bill);
    }

    public int drift(int rate, int mode, int n, int most, int what) throws IllegalArgumentException {
        if (!isRate(rate) || tables.q[rate] > DRIFTING_Q || !isMode(mode)) {
            throw new IllegalArgumentException("no such rate or mode");
        }
        if (n < 1 || n > LINES || most < 0 || most > DRIFTING_LINE || what < 0 || what > 1) {
            throw new IllegalArgumentException("no such n, most or what");
        }
        // The least drift is the greatest one of the opposite slips, turned back.
        int sign = what == 0 ? 1 : -1;
        drifts.measure(tables.p[rate], tables.q[rate], mode, most, sign);
        return sign * drifts.greatest(n);
    }

    public int mend(int program, int law, int from, int to) {
        if (!isProgram(program) || !isLaw(law) || law == ALIKE || !isSpan(from, to, MEND_SPAN)) {
            return NONE;
        }
        Program p = programs[program];
        int broken = trial.firstBreak(tables, p, p, law, from, to);
        if (broken == HOLDS) {
            return HOLDS;
        }
        for (int i = 0; i < p.size; i++) {
            int present = p.choice(i);
            int choices = p.choices(i);
            for (int c = 0; c < choices; c++) {
                if (c == present) {
                    continue;
                }
                p.choose(i, c);
                // An amount that broke the law ahead of this change is likely to break it still.
                if (!trial.breaks(tables, p, p, law, broken)) {
                    broken = trial.firstBreak(tables, p, p, law, from, to);
                }
                p.choose(i, present);
                if (broken == HOLDS) {
                    return 10 * i + c;
                }
            }
        }
        return UNABLE;
    }

    public int same(int program, int other) {
        if (!isProgram(program) || !isProgram(other)) {
            return NONE;
        }
        return programs[program].hasActsOf(programs[other]) ? 1 : 0;
    }

    public long rounded(long n, int d, int m, int mode) throws IllegalArgumentException {
        if (d < 1 || d > 1000000 || m < 1 || m > 1000000) {
            throw new IllegalArgumentException("no such d or m");
        }
        if (n > 1000000000000L || n < -1000000000000L || !isMode(mode)) {
            throw new IllegalArgumentException("no such n or mode");
        }
        return Fractions.rounding(n, d, m, mode);
    }

    public int tape(int d, int sort, int n) {
        if (!isTape(d) || sort < BYTES || sort > LONGS || n > CELLS) {
            return NONE;
        }
        if (n < 0) {
            return refuse(SIZE);
        }
        tapes[d].holdRow(sort, n);
        return n;
    }

    public int image(int d) {
        if (!isTape(d)) {
            return NONE;
        }
        Tape tape = tapes[d];
        tape.sort = IMAGE;
        tape.programs = programCount;
        tape.ledger.become(ledger);
        for (int k = 0; k < programCount; k++) {
            tape.carriedUppers[k] = programs[k].carriedUpper;
            tape.carriedLowers[k] = programs[k].carriedLower;
        }
        return programCount;
    }

    public int back(int d) {
        if (!isTape(d)) {
            return NONE;
        }
        Tape tape = tapes[d];
        if (tape.sort == EMPTY) {
            return refuse(NOTHING);
        }
        if (tape.sort != IMAGE) {
            return refuse(CAST);
        }
        if (tape.programs > programCount) {
            return UNABLE;
        }
        ledger.become(tape.ledger);
        for (int k = 0; k < programCount; k++) {
            boolean known = k < tape.programs;
            programs[k].carriedUpper = known ? tape.carriedUppers[k] : 0;
            programs[k].carriedLower = known ? tape.carriedLowers[k] : 1;
        }
        return ledger.leaks;
    }

    public int toss(int d) {
        if (!isTape(d)) {
            return NONE;
        }
        if (tapes[d].sort == EMPTY) {
            return refuse(NOTHING);
        }
        if (tapes[d].sort != IMAGE) {
            return refuse(CAST);
        }
        return tapes[d].ledger.leaks > 0 ? tapes[d].ledger.leaks : refuse(THROWN);
    }

    public int load(int d, int i, int n) {
        if (!isTape(d) || n < 0 || n > LINES) {
            return NONE;
        }
        Tape tape = tapes[d];
        if (tape.sort == EMPTY) {
            return refuse(NOTHING);
        }
        if (tape.sort == BYTES || tape.sort == IMAGE) {
            return refuse(CAST);
        }
        if (!tape.hasPlaces(i, n)) {
            return refuse(PLACE);
        }
        for (int k = 0; k < n; k++) {
            if (!isLine(tape.cells[i + k])) {
                return UNABLE;
            }
        }
        for (int k = 0; k < n; k++) {
            bill.units[k] = (int) tape.cells[i + k];
        }
        bill.size = n;
        return n;
    }

    public int clear(int d) {
        if (!isTape(d)) {
            return NONE;
        }
        int held = tapes[d].sort;
        tapes[d].sort = EMPTY;
        return held;
    }

    public int put(int d, int i, long v) {
        if (!isTape(d)) {
            return NONE;
        }
        Tape tape = tapes[d];
        if (tape.sort == EMPTY) {
            return refuse(NOTHING);
        }
        if (tape.sort == IMAGE) {
            return refuse(CAST);
        }
        if (!tape.hasPlaces(i, 1)) {
            return refuse(PLACE);
        }
        tape.cells[i] = tape.narrowed(v);
        return 1;
    }

    public long at(int d, int i) throws IllegalArgumentException, IllegalStateException {
        if (!isTape(d)) {
            throw new IllegalArgumentException("no such tape");
        }
        if (!tapes[d].isRow() || !tapes[d].hasPlaces(i, 1)) {
            throw new IllegalStateException("no row with such a place");
        }
        return tapes[d].cells[i];
    }

    public int copy(int d, int i, int e, int j, int n) {
        if (!isTape(d) || !isTape(e)) {
            return NONE;
        }
        Tape from = tapes[d];
        Tape to = tapes[e];
        if (from.sort == EMPTY || to.sort == EMPTY) {
            return refuse(NOTHING);
        }
        if (from.sort == IMAGE || from.sort != to.sort) {
            return refuse(CAST);
        }
        if (!from.hasPlaces(i, n) || !to.hasPlaces(j, n)) {
            return refuse(PLACE);
        }
        System.arraycopy(from.cells, i, to.cells, j, n);
        return n;
    }

    public int count(int what) {
        if (what >= 10 && what < 10 + programCount) {
            return programs[what - 10].size;
        }
        if (what >= 20 && what < 20 + SETS) {
            return tables.sizes[what - 20];
        }
        switch (what) {
            case 0:
                return bill.size;
            case 1:
                return programCount;
            case 2:
                return ledger.leaks;
            case 3:
                return refusals;
            default:
                return NONE;
        }
    }

    private int runOnce(Program program) {
        last.bill.become(bill);
        last.ledger.become(ledger);
        last.carriedUpper = program.carriedUpper;
        last.carriedLower = program.carriedLower;
        int outcome = last.perform(program, tables);
        // A run that failed leaves the judge's own accounts, leaks and carried alone.
        if (outcome == DONE) {
            ledger.become(last.ledger);
            program.carriedUpper = last.carriedUpper;
            program.carriedLower = last.carriedLower;
        }
        return outcome;
    }

    private int refuse(int refusal) {
        refusals++;
        return refusal;
    }

    private boolean isProgram(int program) {
        return program >= 0 && program < programCount;
    }

    private boolean isAct(int program, int i) {
        return isProgram(program) && i >= 0 && i < programs[program].size;
    }

    private static boolean isRate(int k) {
        return k >= 0 && k < RATES;
    }

    private static boolean isLine(long units) {
        return units >= -GREATEST_LINE && units <= GREATEST_LINE;
    }

    private static boolean isSlot(int s) {
        return s >= 0 && s < SLOTS;
    }

    private static boolean isMode(int mode) {
        return mode >= 0 && mode < MODES;
    }

    private static boolean isLaw(int law) {
        return law >= 0 && law < LAWS;
    }

    private static boolean isTape(int d) {
        return d >= 0 && d < TAPES;
    }

    private static boolean isSpan(int from, int to, int most) {
        return isLine(from) && isLine(to) && to >= from && to - from <= most;
    }

    private static boolean fits(int kind, int t, int v) {
        return t >= 0 && t <= T_MOST[kind] && v >= V_LEAST[kind] && v <= V_MOST[kind];
    }

    /** The rates and the sets of weights. */
    private static final class Tables {
        final int[] p = new int[RATES];
        final int[] q = new int[RATES];
        final int[][] weights = new int[SETS][WEIGHTS];
        final int[] sizes = new int[SETS];

        Tables() {
            reset();
        }

        void reset() {
            for (int k = 0; k < RATES; k++) {
                p[k] = 0;
                q[k] = 1;
            }
            for (int k = 0; k < SETS; k++) {
                weights[k][0] = 1;
                weights[k][1] = 1;
                sizes[k] = 2;
            }
        }
    }

    /** Lines in their order. */
    private static final class Bill {
        final int[] units = new int[LINES];
        int size;

        void become(Bill other) {
            for (int i = 0; i < other.size; i++) {
                units[i] = other.units[i];
            }
            size = other.size;
        }

        void becomeOneLine(int amount) {
            units[0] = amount;
            size = 1;
        }
    }

    /** The accounts, and how often an amount was booked that was only to be shown. */
    private static final class Ledger {
        final long[] accounts = new long[ACCOUNTS];
        int leaks;

        void reset() {
            for (int k = 0; k < ACCOUNTS; k++) {
                accounts[k] = 0;
            }
            leaks = 0;
        }

        void become(Ledger other) {
            for (int k = 0; k < ACCOUNTS; k++) {
                accounts[k] = other.accounts[k];
            }
            leaks = other.leaks;
        }

        long total() {
            long sum = 0;
            for (int k = 0; k < ACCOUNTS; k++) {
                sum += accounts[k];
            }
            return sum;
        }

        /** Whether each account is sign times the other's. */
        boolean matches(Ledger other, int sign) {
            for (int k = 0; k < ACCOUNTS; k++) {
                if (accounts[k] != sign * other.accounts[k]) {
                    return false;
                }
            }
            return true;
        }
    }

    /** Acts in their order, and the amount that one run carries to the next. */
    private static final class Program {
        final int[] kinds = new int[ACTS];
        final int[] s = new int[ACTS];
        final int[] t = new int[ACTS];
        final int[] v = new int[ACTS];
        int size;
        long carriedUpper;
        long carriedLower = 1;

        void reset() {
            size = 0;
            carriedUpper = 0;
            carriedLower = 1;
        }

        boolean hasActsOf(Program other) {
            if (size != other.size) {
                return false;
            }
            for (int i = 0; i < size; i++) {
                if (kinds[i] != other.kinds[i] || s[i] != other.s[i] || t[i] != other.t[i] || v[i] != other.v[i]) {
                    return false;
                }
            }
            return true;
        }

        /** How many modes or rules an act can choose from. */
        int choices(int i) {
            switch (kinds[i]) {
                case TAX:
                case FLOW:
                case ROUND:
                case SHOW:
                    return MODES;
                case SPLIT:
                    return RULES;
                default:
                    return 0;
            }
        }

        int choice(int i) {
            return choosesByT(i) ? t[i] : v[i];
        }

        void choose(int i, int choice) {
            if (choosesByT(i)) {
                t[i] = choice;
            } else {
                v[i] = choice;
            }
        }

        private boolean choosesByT(int i) {
            return kinds[i] == ROUND || kinds[i] == SPLIT;
        }
    }

    /** Sums on fractions whose lower number is above 0. */
    private static final class Fractions {
        private Fractions() {
        }

        /** The multiple of m that upper / lower is rounded to. */
        static long rounding(long upper, long lower, long m, int mode) {
            long unit = lower * m;
            if (unit <= 0) {
                return 0;
            }
            long below = upper / unit;
            long rest = upper % unit;
            if (rest < 0) {
                rest += unit;
                below--;
            }
            if (rest == 0) {
                return below * m;
            }
            boolean up;
            if (mode <= EVEN_IF_MIDDLE && 2 * rest != unit) {
                up = 2 * rest > unit;
            } else if (mode == EVEN_IF_MIDDLE) {
                up = below % 2 != 0;
            } else if (mode == FAR_FROM_ZERO_IF_MIDDLE || mode == FAR_FROM_ZERO) {
                up = upper > 0;
            } else if (mode == NEAR_ZERO) {
                up = upper < 0;
            } else {
                up = mode == UPPER;
            }
            return up ? (below + 1) * m : below * m;
        }

        /** The greatest number that divides both; 1 if there is none. */
        static long divisor(long upper, long lower) {
            long a = upper < 0 ? -upper : upper;
            long b = lower;
            // Two longs never need a hundred of Euclid's steps.
            for (int step = 0; step < 100 && b != 0; step++) {
                long rest = a % b;
                a = b;
                b = rest;
            }
            return a > 0 ? a : 1;
        }

        static boolean isSpent(long upper, long lower) {
            return upper > UPPER_LIMIT || upper < -UPPER_LIMIT || lower > LOWER_LIMIT;
        }
    }

    /** Parts a whole amount by weights, and keeps the parts of the last time. */
    private static final class Splitter {
        final long[] parts = new long[WEIGHTS];
        boolean used;
        private final int[] weights = new int[WEIGHTS];
        private final long[] rests = new long[WEIGHTS];
        private int size;
        private long sum;
        private long whole;

        void wipe() {
            for (int i = 0; i < WEIGHTS; i++) {
                parts[i] = 0;
            }
            used = false;
        }

        void divide(long amount, int rule, int[] newWeights, int newSize) {
            wipe();
            used = true;
            whole = amount;
            weigh(newWeights, newSize);
            int mode = rule == BY_RESTS || rule == IN_ORDER ? LOWER : FAR_FROM_ZERO_IF_MIDDLE;
            long left = whole;
            for (int i = 0; i < size; i++) {
                parts[i] = Fractions.rounding(whole * weights[i], sum, 1, mode);
                left -= parts[i];
            }
            if (rule == BY_RESTS) {
                giveByRests(left);
            } else if (rule == IN_ORDER) {
                giveInOrder(left);
            } else {
                parts[rule == LAST_TAKES ? size - 1 : 0] += left;
            }
        }

        /** Whether some part is 1 or more away from its share. */
        boolean strays() {
            for (int i = 0; i < size; i++) {
                long gap = parts[i] * sum - whole * weights[i];
                if (gap >= sum || gap <= -sum) {
                    return true;
                }
            }
            return false;
        }

        private void weigh(int[] newWeights, int newSize) {
            size = newSize;
            sum = 0;
            for (int i = 0; i < size; i++) {
                weights[i] = newWeights[i];
                sum += weights[i];
            }
            if (sum == 0) {
                weights[0] = 1;
                weights[1] = 1;
                size = 2;
                sum = 2;
            }
        }

        private void giveByRests(long left) {
            for (int i = 0; i < size; i++) {
                rests[i] = whole * weights[i] - parts[i] * sum;
            }
            // Each rest is below one, so there are more rests above 0 than there is left to give.
            for (int given = 0; given < left && given < size; given++) {
                int greatest = 0;
                for (int i = 1; i < size; i++) {
                    if (rests[i] > rests[greatest]) {
                        greatest = i;
                    }
                }
                parts[greatest]++;
                rests[greatest] = -1;
            }
        }

        private void giveInOrder(long left) {
            long ungiven = left;
            for (int i = 0; i < size && ungiven > 0; i++) {
                if (weights[i] > 0) {
                    parts[i]++;
                    ungiven--;
                }
            }
        }
    }

    /** Runs programs exactly, on its own bill and ledger, and keeps what the last run came to. */
    private static final class Machine {
        final Bill bill = new Bill();
        final Ledger ledger = new Ledger();
        final Splitter splitter = new Splitter();
        final long[] uppers = new long[SLOTS];
        final long[] lowers = new long[SLOTS];
        final boolean[] shown = new boolean[SLOTS];
        final long[] results = new long[LINES];
        long carriedUpper;
        long carriedLower = 1;
        int failedAct;
        private boolean partsShown;

        Machine() {
            wipe();
        }

        void wipe() {
            for (int k = 0; k < SLOTS; k++) {
                uppers[k] = 0;
                lowers[k] = 1;
                shown[k] = false;
            }
            for (int i = 0; i < LINES; i++) {
                results[i] = 0;
            }
            splitter.wipe();
            partsShown = false;
            failedAct = UNFAILED;
        }

        /** Makes ready for a run from accounts and carried 0. */
        void startAfresh() {
            ledger.reset();
            carriedUpper = 0;
            carriedLower = 1;
        }

        int perform(Program program, Tables tables) {
            wipe();
            for (int i = 0; i < program.size; i++) {
                int outcome = step(program, i, tables);
                if (outcome != DONE) {
                    failedAct = i;
                    return outcome;
                }
            }
            return DONE;
        }

        private int step(Program program, int i, Tables tables) {
            int s = program.s[i];
            int t = program.t[i];
            int v = program.v[i];
            switch (program.kinds[i]) {
                case SUM:
                    return becomeWhole(s, sumOfLines(), false);
                case TAX:
                    return becomeWhole(s, taxLines(tables.p[t], tables.q[t], v), false);
                case FLOW:
                    return becomeWhole(s, flowLines(tables.p[t], tables.q[t], v), false);
                case RATE:
                    return become(s, uppers[t] * tables.p[v], lowers[t] * tables.q[v], shown[t]);
                case ROUND:
                    return becomeWhole(s, Fractions.rounding(uppers[s], lowers[s], v, t), shown[s]);
                case ADD:
                    long added = v == 0 ? uppers[t] : -uppers[t];
                    long upper = uppers[s] * lowers[t] + added * lowers[s];
                    return become(s, upper, lowers[s] * lowers[t], shown[s] || shown[t]);
                case SPLIT:
                    if (lowers[s] != 1) {
                        return WHOLE;
                    }
                    partsShown = shown[s];
                    splitter.divide(uppers[s], t, tables.weights[v], tables.sizes[v]);
                    return DONE;
                case PART:
                    return becomeWhole(s, splitter.parts[t], partsShown);
                case CARRY:
                    return carry(s);
                case CAP:
                    return cap(s, t, v);
                case BOOK:
                    return book(s, t, v);
                case SHOW:
                    return becomeWhole(s, Fractions.rounding(uppers[t], lowers[t], 1, v), true);
                default:
                    return passDays(s, tables.p[t], tables.q[t], v);
            }
        }

        private int become(int s, long upper, long lower, boolean isShown) {
            long divisor = Fractions.divisor(upper, lower);
            if (divisor <= 0 || Fractions.isSpent(upper / divisor, lower / divisor)) {
                return SPENT;
            }
            uppers[s] = upper / divisor;
            lowers[s] = lower / divisor;
            shown[s] = isShown;
            return DONE;
        }

        private int becomeWhole(int s, long amount, boolean isShown) {
            if (Fractions.isSpent(amount, 1)) {
                return SPENT;
            }
            uppers[s] = amount;
            lowers[s] = 1;
            shown[s] = isShown;
            return DONE;
        }

        private long sumOfLines() {
            long sum = 0;
            for (int i = 0; i < bill.size; i++) {
                sum += bill.units[i];
            }
            return sum;
        }

        // Twelve lines of a million times ten thousand stay far below 2^40: no result is ever spent.
        private long taxLines(long p, long q, int mode) {
            long sum = 0;
            for (int i = 0; i < bill.size; i++) {
                results[i] = Fractions.rounding(bill.units[i] * p, q, 1, mode);
                sum += results[i];
            }
            return sum;
        }

        private long flowLines(long p, long q, int mode) {
            long lines = 0;
            long ahead = 0;
            for (int i = 0; i < bill.size; i++) {
                lines += bill.units[i];
                results[i] = Fractions.rounding(lines * p, q, 1, mode) - ahead;
                ahead += results[i];
            }
            return ahead;
        }

        private int carry(int s) {
            long upper = carriedUpper * lowers[s] + uppers[s] * carriedLower;
            long lower = carriedLower * lowers[s];
            long divisor = Fractions.divisor(upper, lower);
            if (divisor <= 0 || Fractions.isSpent(upper / divisor, lower / divisor)) {
                return SPENT;
            }
            upper /= divisor;
            lower /= divisor;
            uppers[s] = Fractions.rounding(upper, lower, 1, LOWER);
            lowers[s] = 1;
            carriedUpper = upper - uppers[s] * lower;
            carriedLower = lower;
            return DONE;
        }

        private int cap(int s, int side, long limit) {
            long reach = limit * lowers[s];
            if (side == 0 ? uppers[s] > reach : uppers[s] < reach) {
                return becomeWhole(s, limit, shown[s]);
            }
            return DONE;
        }

        private int book(int s, int account, int off) {
            if (lowers[s] != 1) {
                return WHOLE;
            }
            ledger.accounts[account] += off == 0 ? uppers[s] : -uppers[s];
            if (shown[s]) {
                ledger.leaks++;
            }
            return DONE;
        }

        private int passDays(int s, long p, long q, int days) {
            for (int day = 0; day < days; day++) {
                long gain = Fractions.rounding(uppers[s] * p, lowers[s] * q, 1, EVEN_IF_MIDDLE);
                // What gains nothing on one day gains nothing on the days behind it.
                if (gain == 0) {
                    return DONE;
                }
                // A whole gain leaves the fraction in its lowest terms.
                long upper = uppers[s] + gain * lowers[s];
                if (Fractions.isSpent(upper, lowers[s])) {
                    return SPENT;
                }
                uppers[s] = upper;
            }
            return DONE;
        }
    }

    /** Runs programs by doubles on a bill of one line, for which a tax and a flow are alike. */
    private static final class FloatMachine {
        final Ledger ledger = new Ledger();
        private final Splitter splitter = new Splitter();
        private final double[] slots = new double[SLOTS];
        private double carried;

        void perform(Program program, Tables tables, int line) {
            ledger.reset();
            splitter.wipe();
            carried = 0.0;
            for (int k = 0; k < SLOTS; k++) {
                slots[k] = 0.0;
            }
            for (int i = 0; i < program.size; i++) {
                step(program, i, tables, line);
                slots[program.s[i]] = within(slots[program.s[i]]);
            }
        }

        private void step(Program program, int i, Tables tables, int line) {
            int s = program.s[i];
            int t = program.t[i];
            int v = program.v[i];
            switch (program.kinds[i]) {
                case SUM:
                    slots[s] = (double) line;
                    break;
                case TAX:
                case FLOW:
                    slots[s] = rounding((double) line * rateOf(tables, t), 1.0, v);
                    break;
                case RATE:
                    slots[s] = slots[t] * rateOf(tables, v);
                    break;
                case ROUND:
                    slots[s] = rounding(slots[s], (double) v, t);
                    break;
                case ADD:
                    slots[s] = v == 0 ? slots[s] + slots[t] : slots[s] - slots[t];
                    break;
                case SPLIT:
                    splitter.divide(dividable(slots[s]), t, tables.weights[v], tables.sizes[v]);
                    break;
                case PART:
                    slots[s] = (double) splitter.parts[t];
                    break;
                case CARRY:
                    carry(s);
                    break;
                case CAP:
                    if (t == 0 ? slots[s] > (double) v : slots[s] < (double) v) {
                        slots[s] = (double) v;
                    }
                    break;
                case BOOK:
                    ledger.accounts[t] += v == 0 ? (long) slots[s] : -(long) slots[s];
                    break;
                case SHOW:
                    slots[s] = rounding(slots[t], 1.0, v);
                    break;
                default:
                    passDays(s, rateOf(tables, t), v);
                    break;
            }
        }

        private static double rateOf(Tables tables, int k) {
            return tables.q[k] > 0 ? (double) tables.p[k] / (double) tables.q[k] : 0.0;
        }

        private static long dividable(double x) {
            long whole = (long) x;
            return whole > UPPER_LIMIT || whole < -UPPER_LIMIT ? 0 : whole;
        }

        private void carry(int s) {
            double sum = carried + slots[s];
            slots[s] = floor(sum);
            carried = sum - slots[s];
        }

        private void passDays(int s, double rate, int days) {
            for (int day = 0; day < days; day++) {
                slots[s] = within(slots[s] + even(slots[s] * rate));
            }
        }

        private static double within(double x) {
            if (x > 1125899906842624.0) {
                return 1125899906842624.0;
            }
            return x < -1125899906842624.0 ? -1125899906842624.0 : x;
        }

        private static double rounding(double x, double m, int mode) {
            double y = m > 0.0 ? x / m : x;
            switch (mode) {
                case FAR_FROM_ZERO_IF_MIDDLE:
                    return m * (y < 0.0 ? ceil(y - 0.5) : floor(y + 0.5));
                case EVEN_IF_MIDDLE:
                    return m * even(y);
                case NEAR_ZERO:
                    return m * (y > 0.0 ? floor(y) : ceil(y));
                case FAR_FROM_ZERO:
                    return m * (y > 0.0 ? ceil(y) : floor(y));
                case LOWER:
                    return m * floor(y);
                default:
                    return m * ceil(y);
            }
        }

        // Slots stay within 2^50 and taxes far below, so a cast to long cuts nothing but the places behind the point.
        private static double floor(double y) {
            double cut = (double) (long) y;
            return cut > y ? cut - 1.0 : cut;
        }

        private static double ceil(double y) {
            double cut = (double) (long) y;
            return cut < y ? cut + 1.0 : cut;
        }

        private static double even(double y) {
            // A day's gain may fit no long, but from 2^52 on a double has no places behind the point.
            if (y >= 4503599627370496.0 || y <= -4503599627370496.0) {
                return y;
            }
            // The rest of a number not below 0 is exact, and its middle goes the same way as its mirror's.
            double size = y < 0.0 ? -y : y;
            long cut = (long) size;
            double rest = size - (double) cut;
            if (rest > 0.5 || rest == 0.5 && cut % 2 != 0) {
                cut++;
            }
            return y < 0.0 ? -(double) cut : (double) cut;
        }
    }

    /** Tries programs on bills of its own; the judge's state is only read. */
    private static final class Trial {
        private final Machine one = new Machine();
        private final Machine two = new Machine();
        private final FloatMachine floats = new FloatMachine();
        private final int[] places = new int[ORDERED_LINES];

        int firstBreak(Tables tables, Program program, Program other, int law, int from, int to) {
            for (int a = from; a <= to; a++) {
                if (breaks(tables, program, other, law, a)) {
                    return a;
                }
            }
            return HOLDS;
        }

        /** Whether a breaks the law; for every law but ALIKE the other program is the program itself. */
        boolean breaks(Tables tables, Program program, Program other, int law, int a) {
            one.bill.becomeOneLine(a);
            one.startAfresh();
            boolean done = one.perform(program, tables) == DONE;
            switch (law) {
                case CLOSE:
                    return done && one.ledger.total() != 0;
                case MIRROR:
                case ALIKE:
                    two.bill.becomeOneLine(law == MIRROR ? -a : a);
                    two.startAfresh();
                    return differs(done, two.perform(other, tables) == DONE, law == MIRROR ? -1 : 1);
                case SHARE:
                    return done && one.splitter.used && one.splitter.strays();
                case FAIL:
                    return !done;
                case LEAK:
                    return done && one.ledger.leaks > 0;
                default:
                    if (!done) {
                        return false;
                    }
                    floats.perform(program, tables, a);
                    return !one.ledger.matches(floats.ledger, 1);
            }
        }

        private boolean differs(boolean oneDone, boolean twoDone, int sign) {
            return oneDone != twoDone || oneDone && !one.ledger.matches(two.ledger, sign);
        }

        int firstOrderThatMatters(Tables tables, Program program, Bill bill) {
            int orders = 1;
            for (int i = 0; i < bill.size; i++) {
                places[i] = i;
                orders *= i + 1;
            }
            one.bill.become(bill);
            one.startAfresh();
            boolean done = one.perform(program, tables) == DONE;
            two.bill.become(bill);
            for (int number = 1; number < orders; number++) {
                goToNextOrder(bill.size);
                for (int i = 0; i < bill.size; i++) {
                    two.bill.units[i] = bill.units[places[i]];
                }
                two.startAfresh();
                if (differs(done, two.perform(program, tables) == DONE, 1) || hasOtherResults(bill.size)) {
                    return number;
                }
            }
            return HOLDS;
        }

        private boolean hasOtherResults(int size) {
            for (int i = 0; i < size; i++) {
                if (two.results[i] != one.results[places[i]]) {
                    return true;
                }
            }
            return false;
        }

        private void goToNextOrder(int size) {
            int turn = size - 2;
            while (turn >= 0 && places[turn] > places[turn + 1]) {
                turn--;
            }
            if (turn < 0) {
                return;
            }
            int next = size - 1;
            while (next > turn && places[next] < places[turn]) {
                next--;
            }
            swap(turn, next);
            for (int low = turn + 1, high = size - 1; low < high; low++, high--) {
                swap(low, high);
            }
        }

        private void swap(int i, int j) {
            int kept = places[i];
            places[i] = places[j];
            places[j] = kept;
        }
    }

    /**
     * The drift of a rate. A line's slip is q times what its rounding adds to it; slips come again after
     * q lines (2 q where evenness counts), so a sum's place in that period tells all that matters of it.
     */
    private static final class Drift {
        private static final int UNREACHED = -1000000;
        private final int[] slips = new int[2 * DRIFTING_Q];
        private final int[] single = new int[2 * DRIFTING_Q];
        private int[] best = new int[2 * DRIFTING_Q];
        private int[] joined = new int[2 * DRIFTING_Q];
        private int period = 1;
        private int q = 1;

        void measure(int p, int newQ, int mode, int most, int sign) {
            q = newQ;
            period = mode == EVEN_IF_MIDDLE ? 2 * q : q;
            for (int r = 0; r < period; r++) {
                long exact = (long) r * p;
                slips[r] = sign * (int) (q * Fractions.rounding(exact, q, 1, mode) - exact);
                single[r] = r <= most ? slips[r] : UNREACHED;
            }
        }

        /** The greatest sum of the slips of n lines less the slip of their sum, in units. */
        int greatest(int n) {
            System.arraycopy(single, 0, best, 0, period);
            // The best of n lines comes from the best of half as many, by the bits of n from the top.
            for (int bit = Integer.highestOneBit(n) >> 1; bit > 0; bit >>= 1) {
                joinWith(best);
                if ((n & bit) != 0) {
                    joinWith(single);
                }
            }
            int greatest = UNREACHED;
            for (int r = 0; r < period; r++) {
                if (best[r] != UNREACHED) {
                    greatest = Math.max(greatest, best[r] - slips[r]);
                }
            }
            return q > 0 ? greatest / q : 0;
        }

        private void joinWith(int[] others) {
            for (int r = 0; r < period; r++) {
                joined[r] = UNREACHED;
            }
            for (int a = 0; a < period; a++) {
                if (best[a] != UNREACHED) {
                    joinFrom(a, others);
                }
            }
            int[] kept = best;
            best = joined;
            joined = kept;
        }

        private void joinFrom(int a, int[] others) {
            int r = a;
            for (int b = 0; b < period; b++) {
                if (others[b] != UNREACHED && best[a] + others[b] > joined[r]) {
                    joined[r] = best[a] + others[b];
                }
                r = r + 1 < period ? r + 1 : 0;
            }
        }
    }

    /** A tape: nothing, a row whose elements are kept as longs of its sort's range, or an image. */
    private static final class Tape {
        int sort;
        final long[] cells = new long[CELLS];
        final Ledger ledger = new Ledger();
        final long[] carriedUppers = new long[PROGRAMS];
        final long[] carriedLowers = new long[PROGRAMS];
        int programs;
        private int length;

        void holdRow(int newSort, int newLength) {
            sort = newSort;
            length = newLength;
            for (int i = 0; i < length; i++) {
                cells[i] = 0;
            }
        }

        boolean isRow() {
            return sort != EMPTY && sort != IMAGE;
        }

        boolean hasPlaces(int i, int n) {
            return i >= 0 && n >= 0 && n <= length && i <= length - n;
        }

        long narrowed(long value) {
            switch (sort) {
                case BYTES:
                    return (byte) value;
                case SHORTS:
                    return (short) value;
                case INTS:
                    return (int) value;
                default:
                    return value;
            }
        }
    }
}
