import java.util.ArrayList;
import java.util.List;

/**
 * Runs of calls on a new object with the answers that are due, written as texts: "name argument .. = answer", parted by
 * semicolons. A call without an answer is only there to make ready, and must not be refused. A name in capitals is an
 * ACT of the last PROGRAM that was made (its s, t, v; what is left out is 0), NEW is a new PROGRAM. IAE and ISE are the
 * exceptions; MIN, MAX, LMIN and LMAX are the ends of int and long.
 */
final class Script {
    private static final List<String> ACTS = List.of("SUM", "TAX", "FLOW", "RATE", "ROUND", "ADD", "SPLIT", "PART", "CARRY",
        "CAP", "BOOK", "SHOW", "DAYS");
    private static final List<String> CHANGING = List.of("begin", "rate", "line", "bare", "weight", "program", "act", "set",
        "run", "years", "tape", "image", "back", "load", "clear", "put", "copy");
    private static final int MOST_CALLS = 512;

    static int wrong = 0;
    static int calls = 0;

    private final String title;
    private final PennyJudge judge = new PennyJudge();
    private final List<String[]> made = new ArrayList<>();
    private final List<String[]> effective = new ArrayList<>();
    private int program = -1;
    private int hostRefusals = 0;

    private Script(String title) {
        this.title = title;
    }

    /** Makes the calls, and then sees that those that were refused, and those that only ask, have changed nothing. */
    static void run(String title, String... texts) {
        Script script = new Script(title);
        for (String text : texts) {
            for (String call : text.split(";")) {
                if (!call.isBlank()) {
                    script.check(call.trim());
                }
            }
        }
        script.compareTwins();
        if (script.made.size() > MOST_CALLS) {
            script.tell("makes more than " + MOST_CALLS + " calls");
        }
    }

    /** n calls by a pattern in which # is 1, 2 .. */
    static String times(int n, String pattern) {
        StringBuilder all = new StringBuilder();
        for (int i = 1; i <= n; i++) {
            all.append(pattern.replace("#", "" + i)).append(';');
        }
        return all.toString();
    }

    private void tell(String fault) {
        wrong++;
        System.out.println(title + ": " + fault);
    }

    private void check(String text) {
        String[] sides = text.split("=");
        String[] words = plainCall(sides[0].trim().split(" +"));
        String got = call(judge, words);
        calls++;
        made.add(words);
        boolean fine = sides.length > 1 ? got.equals(answer(sides[1].trim())) : !got.startsWith("-") && !got.startsWith("throws");
        if (!fine) {
            tell(text + ", but " + String.join(" ", words) + " answered " + got);
        }
        note(words, got);
    }

    private void note(String[] words, String got) {
        boolean refused = got.startsWith("throws") || got.startsWith("-") && !(words[0].equals("run") && !got.equals("-1"));
        if (CHANGING.contains(words[0]) && !refused) {
            effective.add(words);
        }
        if (words[0].equals("program") && !refused) {
            program = Integer.parseInt(got);
        }
        if (words[0].equals("begin")) {
            program = -1;
            hostRefusals = 0;
        }
        boolean mayRefuse = List.of("tape", "back", "toss", "load", "put", "copy").contains(words[0]);
        if (mayRefuse && got.matches("-1[1-5]")) {
            hostRefusals++;
        }
    }

    private String[] plainCall(String[] words) {
        if (words[0].equals("NEW")) {
            return new String[] {"program"};
        }
        if (!ACTS.contains(words[0])) {
            return words;
        }
        String[] act = {"act", "" + program, "" + ACTS.indexOf(words[0]), "0", "0", "0"};
        System.arraycopy(words, 1, act, 3, words.length - 1);
        return act;
    }

    private static String answer(String due) {
        switch (due) {
            case "IAE":
                return Oracle.ARGUMENT;
            case "ISE":
                return Oracle.STATE;
            case "HOLDS":
                return "9999999";
            default:
                return due;
        }
    }

    private static long number(String word) {
        switch (word) {
            case "MIN":
                return Integer.MIN_VALUE;
            case "MAX":
                return Integer.MAX_VALUE;
            case "LMIN":
                return Long.MIN_VALUE;
            case "LMAX":
                return Long.MAX_VALUE;
            default:
                return Long.parseLong(word);
        }
    }

    private static String call(PennyJudge judge, String[] words) {
        long[] arguments = new long[words.length - 1];
        for (int i = 0; i < arguments.length; i++) {
            arguments[i] = number(words[i + 1]);
        }
        return Caller.call(judge, words[0], arguments);
    }

    private static PennyJudge after(List<String[]> calls) {
        PennyJudge twin = new PennyJudge();
        for (String[] words : calls) {
            call(twin, words);
        }
        return twin;
    }

    private void compareTwins() {
        List<String[]> both = new ArrayList<>();
        both.add(probes(Script::stateProbe, "state"));
        both.add(probes(Script::behaviourProbe, "behaviour"));
        both.add(probes(Script::tapeProbe, "tapes"));
        for (String[] pair : both) {
            if (!pair[0].equals(pair[1])) {
                tell("what was refused or only asked has changed the " + pair[2] + ": " + pair[0] + " is not " + pair[1]);
            }
        }
        if (judge.count(3) != hostRefusals) {
            tell("count(3) is " + judge.count(3) + ", but the host refused " + hostRefusals + " times");
        }
    }

    private interface Probe {
        void ask(PennyJudge judge, StringBuilder answers);
    }

    private String[] probes(Probe probe, String what) {
        StringBuilder one = new StringBuilder();
        StringBuilder two = new StringBuilder();
        probe.ask(after(made), one);
        probe.ask(after(effective), two);
        return new String[] {one.toString(), two.toString(), what};
    }

    private static void ask(PennyJudge judge, StringBuilder answers, String text) {
        answers.append(call(judge, text.split(" "))).append(' ');
    }

    private static void stateProbe(PennyJudge judge, StringBuilder answers) {
        for (int what : new int[] {0, 1, 2, 10, 11, 12, 13, 20, 21, 22, 23}) {
            answers.append(judge.count(what)).append(' ');
        }
        for (int i = 0; i < 8; i++) {
            ask(judge, answers, "account " + i);
            ask(judge, answers, "part " + i);
            for (int what = 0; what < 3; what++) {
                ask(judge, answers, "slot " + i + " " + what);
            }
        }
        for (int i = 0; i < 12; i++) {
            ask(judge, answers, "got " + i);
        }
        answers.append(judge.failed()).append(" acts ");
        for (int k = 0; k < judge.count(1); k++) {
            ask(judge, answers, "carried " + k + " 0");
            ask(judge, answers, "carried " + k + " 1");
            for (int i = 0; i < judge.count(10 + k); i++) {
                for (int what = 0; what < 4; what++) {
                    ask(judge, answers, "told " + k + " " + i + " " + what);
                }
            }
        }
    }

    /** Runs what there is, and a PROGRAM that shows every RATE, SET and LINE. */
    private static void behaviourProbe(PennyJudge judge, StringBuilder answers) {
        for (int k = 0; k < judge.count(1); k++) {
            ask(judge, answers, "years " + k + " 2");
            stateOfRun(judge, answers);
        }
        int p = judge.program();
        if (p < 0) {
            return;
        }
        judge.act(p, 9, 7, 1, 1);
        for (int k = 0; k < 8; k++) {
            judge.act(p, 3, k, 7, k);
        }
        judge.run(p);
        stateOfRun(judge, answers);
        judge.act(p, 9, 0, 1, 997);
        judge.act(p, 4, 0, 4, 1);
        int split = judge.act(p, 6, 0, 0, 0) - 1;
        for (int set = 0; set < 4; set++) {
            judge.set(p, split, 0, set);
            judge.run(p);
            stateOfRun(judge, answers);
        }
        judge.rate(0, 1, 1);
        judge.act(p, 1, 0, 0, 0);
        judge.run(p);
        stateOfRun(judge, answers);
    }

    private static void stateOfRun(PennyJudge judge, StringBuilder answers) {
        for (int i = 0; i < 8; i++) {
            answers.append(judge.account(i)).append(' ').append(judge.part(i)).append(' ');
            answers.append(judge.slot(i, 0)).append('/').append(judge.slot(i, 1)).append(' ');
        }
        for (int i = 0; i < 12; i++) {
            answers.append(judge.got(i)).append(' ');
        }
    }

    private static void tapeProbe(PennyJudge judge, StringBuilder answers) {
        for (int d = 0; d < 6; d++) {
            for (int i = 0; i < 65; i++) {
                String held = call(judge, ("at " + d + " " + i).split(" "));
                if (held.startsWith("throws")) {
                    break;
                }
                answers.append(held).append(' ');
            }
            ask(judge, answers, "toss " + d);
            ask(judge, answers, "back " + d);
            for (int k = 0; k < 8; k++) {
                answers.append(judge.account(k)).append(' ');
            }
            for (int k = 0; k < judge.count(1); k++) {
                answers.append(judge.carried(k, 0)).append('/').append(judge.carried(k, 1)).append(' ');
            }
            ask(judge, answers, "clear " + d);
        }
    }
}
