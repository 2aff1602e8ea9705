import java.util.ArrayList;
import java.util.List;

/** For each promise, runs of calls on a new object with the answers that the document asks for, worked out by hand. */
public final class PromisesTest {
    private static void run(String title, String... texts) {
        Script.run(title, texts);
    }

    public static void main(String[] args) {
        settings();
        programs();
        acts();
        fails();
        splits();
        laws();
        searches();
        roundings();
        tapes();
        images();
        counts();
        System.out.println(Script.calls + " calls, " + Script.wrong + " not as due");
        if (Script.wrong > 0) {
            System.exit(1);
        }
    }

    private static void settings() {
        run("1 a new object", "count 0 = 0; count 1 = 0; count 2 = 0; count 3 = 0; count 20 = 2; count 23 = 2; count 10 = -1",
            "failed = -2; slot 0 0 = 0; slot 7 1 = 1; slot 7 2 = 0; part 7 = 0; got 11 = 0; account 7 = 0; carried 0 0 = IAE",
            "clear 0 = 0; clear 5 = 0; drift 7 0 12 1000 0 = 0");
        run("2 begin", "program = 0; act 0 0 0 0 0 = 1; act 0 11 1 0 0 = 2; act 0 10 1 3 0 = 3; line 7 = 1; rate 0 1 2 = 0",
            "weight 1 4 = 3; run 0 = 3; count 2 = 1; account 3 = 7; tape 0 3 2 = 2; put 1 0 0 = -11; count 3 = 1; image 2 = 1",
            "begin = 0; count 0 = 0; count 1 = 0; count 2 = 0; count 3 = 0; account 3 = 0; count 21 = 2; run 0 = -1",
            "failed = -2; slot 0 0 = 0; slot 1 2 = 0; clear 0 = 3; back 2 = -3; program = 0; count 10 = 0; back 2 = 1; account 3 = 7",
            "act 0 0 0 0 0 = 1; act 0 3 1 0 0 = 2; line 8 = 1; run 0 = 2; slot 1 0 = 0; slot 1 1 = 1");
        run("2 begin and carried", "program = 0; rate 0 1 3 = 0; act 0 0 0 0 0 = 1; act 0 3 0 0 0 = 2; act 0 8 0 0 0 = 3; line 4 = 1",
            "run 0 = 3; carried 0 0 = 1; carried 0 1 = 3; begin = 0; carried 0 0 = IAE; program = 0; carried 0 0 = 0; carried 0 1 = 1");
        run("3 rate", "rate 0 0 1 = 0; rate 7 10000 1000 = 0; rate -1 1 1 = -1; rate 8 1 1 = -1; rate 0 -1 1 = -1; rate 0 10001 1 = -1",
            "rate 0 1 0 = -1; rate 0 1 1001 = -1; rate 0 1 -1 = -1");
        run("3 what is refused changes nothing", "rate 0 5 2 = 0; rate 0 1 0 = -1; program = 0; act 0 0 0 0 0 = 1; act 0 3 1 0 0 = 2",
            "line 3 = 1; run 0 = 2; slot 1 0 = 15; slot 1 1 = 2");
        run("4 line", "line 1000000 = 1; line -1000000 = 2; line 1000001 = -1; line -1000001 = -1; line 0 = 3; line 0 = 4; line 0 = 5",
            "line 0 = 6; line 0 = 7; line 0 = 8; line 0 = 9; line 0 = 10; line 0 = 11; line 0 = 12; line 0 = -2; line 1000001 = -1",
            "count 0 = 12");
        run("5 bare", "bare = 0; line 3 = 1; line 4 = 2; bare = 2; count 0 = 0; line 5 = 1; program = 0; act 0 0 0 0 0 = 1; run 0 = 1; slot 0 0 = 5");
        run("6 weight", "weight 0 5 = 3; weight -1 1 = -1; weight 4 1 = -1; weight 0 -2 = -1; weight 0 1001 = -1; weight 0 0 = 4",
            "weight 0 1000 = 5; weight 0 1 = 6; weight 0 1 = 7; weight 0 1 = 8; weight 0 1 = -2; weight 0 1001 = -1; count 20 = 8",
            "weight 0 -1 = 0; count 20 = 0; weight 0 2 = 1; count 21 = 2");
        run("6 no weights, or all 0, count as 1, 1", "program = 0; act 0 0 0 0 0 = 1; act 0 6 0 0 0 = 2; line 9 = 1; weight 0 -1 = 0",
            "run 0 = 2; part 0 = 5; part 1 = 4; weight 0 0 = 1; weight 0 0 = 2; weight 0 0 = 3; run 0 = 2; part 0 = 5; part 1 = 4; part 2 = 0",
            "count 20 = 3; weight 0 7 = 4; run 0 = 2; part 0 = 0; part 3 = 9");
        run("7 program", "program = 0; program = 1; program = 2; program = 3; program = -2; count 1 = 4; begin = 0; program = 0");
    }

    private static void programs() {
        run("8 act, who and where", "act 0 0 0 0 0 = -1; program = 0; act -1 0 0 0 0 = -1; act 1 0 0 0 0 = -1; act 0 -1 0 0 0 = -1; act 0 13 0 0 0 = -1",
            "act 0 0 -1 0 0 = -1; act 0 0 8 0 0 = -1; act 0 0 7 0 0 = 1; count 10 = 1");
        String[] spans = {"0 0 0 0 0", "1 0 7 0 5", "2 0 7 0 5", "3 0 7 0 7", "4 0 5 1 100", "5 0 7 0 1", "6 0 3 0 3", "7 0 7 0 0", "8 0 0 0 0",
            "9 0 1 0 1000000", "10 0 7 0 1", "11 0 7 0 5", "12 0 7 1 30"};
        for (String span : spans) {
            actSpan(span.split(" "));
        }
        List<String> full = new ArrayList<>();
        for (int i = 1; i <= 20; i++) {
            full.add("act 0 0 0 0 0 = " + i + ";");
        }
        run("8 act, full", "program = 0", String.join("", full), "act 0 0 0 0 0 = -2; act 0 0 0 0 1 = -1; act 0 13 0 0 0 = -1; act 1 0 0 0 0 = -1; count 10 = 20",
            "same 0 0 = 1; run 0 = 20; told 0 19 0 = 0; told 0 20 0 = -1; set 0 19 0 0 = 0; least 0 6 -1 0 1 = 9999999; mend 0 0 0 1 = 9999999");
        run("9 set", "program = 0; act 0 4 3 0 1 = 1; act 0 0 0 0 0 = 2; set 0 0 5 100 = 0; told 0 0 2 = 5; told 0 0 3 = 100; told 0 0 1 = 3; told 0 0 0 = 4",
            "set 0 0 6 1 = -1; set 0 0 0 0 = -1; set 0 0 0 101 = -1; set 0 1 0 1 = -1; set 0 1 0 0 = 0; set 0 2 0 0 = -1; set 0 -1 0 0 = -1",
            "set 1 0 0 1 = -1; set -1 0 0 1 = -1; told 0 0 2 = 5; told 0 0 3 = 100");
        run("10 told", "told 0 0 0 = -1; program = 0; told 0 0 0 = -1; act 0 12 7 6 30 = 1; told 0 0 0 = 12; told 0 0 1 = 7; told 0 0 2 = 6; told 0 0 3 = 30",
            "told 0 0 4 = -1; told 0 0 -1 = -1; told 0 1 0 = -1; told 0 -1 0 = -1; told 1 0 0 = -1; told -1 0 0 = -1");
        run("11 run", "run 0 = -1; program = 0; run 0 = 0; run 1 = -1; run -1 = -1; run 4 = -1; act 0 0 0 0 0 = 1; run 0 = 1; act 0 10 0 2 0 = 2; line 5 = 1",
            "run 0 = 2; run 0 = 2; account 2 = 10");
        run("12 years", "years 0 1 = -1; program = 0; years 0 0 = 0; years 0 40 = 40; years 0 41 = -1; years 0 -1 = -1; years 1 1 = -1; line 3 = 1",
            "act 0 0 0 0 0 = 1; act 0 10 0 0 1 = 2; years 0 40 = 40; account 0 = -120; years 0 0 = 0; account 0 = -120; slot 0 0 = 3");
        run("12 years, up to the first that fails", "program = 0; line 1 = 1; rate 0 1 2 = 0; act 0 0 0 0 0 = 1; act 0 3 0 0 0 = 2; act 0 8 0 0 0 = 3",
            "act 0 10 0 1 0 = 4; years 0 5 = 5; account 1 = 2; carried 0 0 = 1; carried 0 1 = 2; act 0 3 1 0 0 = 5; act 0 10 1 0 0 = 6",
            "years 0 9 = 0; failed = 5; account 1 = 2; carried 0 0 = 1; carried 0 1 = 2; slot 0 0 = 1; slot 1 0 = 1; slot 1 1 = 2",
            "bare = 1; line 3 = 1; years 0 3 = 1; failed = 5; account 1 = 4; account 0 = 1; carried 0 0 = 0");
        run("13 failed", "failed = -2; program = 0; rate 0 1 2 = 0; line 1 = 1; act 0 0 0 0 0 = 1; act 0 3 0 0 0 = 2; act 0 6 0 0 0 = 3; run 0 = -5; failed = 2",
            "years 0 0 = 0; failed = 2; least 0 4 -1 0 0 = 9999999; order 0 = 9999999; failed = 2; run 1 = -1; failed = 2; rate 0 1 1 = 0; run 0 = 3",
            "failed = -2; rate 0 1 2 = 0; years 0 3 = 0; failed = 2; begin = 0; failed = -2");
        run("14 account", "account -1 = IAE; account 8 = IAE; account 0 = 0; account 7 = 0");
        run("15 slot", "slot -1 0 = IAE; slot 8 0 = IAE; slot 0 -1 = IAE; slot 0 3 = IAE; slot 7 0 = 0; slot 7 1 = 1; slot 7 2 = 0");
        run("16 part", "part -1 = IAE; part 8 = IAE; part 0 = 0; part 7 = 0");
        run("17 got", "got -1 = IAE; got 12 = IAE; got 0 = 0; got 11 = 0; rate 0 1 1 = 0; program = 0; act 0 1 0 0 0 = 1; line 5 = 1; line 6 = 2",
            "run 0 = 1; got 0 = 5; got 1 = 6; got 2 = 0; bare = 2; got 1 = 6; run 0 = 1; got 0 = 0; got 1 = 0");
        run("18 carried", "carried 0 0 = IAE; program = 0; carried 0 0 = 0; carried 0 1 = 1; carried 0 2 = IAE; carried 0 -1 = IAE; carried 1 0 = IAE; carried -1 0 = IAE");
        run("23 same", "same 0 0 = -1; program = 0; same 0 0 = 1; same 0 1 = -1; same 1 0 = -1; same -1 0 = -1; program = 1; same 0 1 = 1; act 0 5 1 2 1 = 1; same 0 1 = 0",
            "act 1 5 1 2 1 = 1; same 0 1 = 1; set 1 0 2 0 = 0; same 0 1 = 0; set 1 0 3 1 = 0; same 1 0 = 0; program = 2; act 2 5 2 2 1 = 1; same 0 2 = 0",
            "program = 3; act 3 10 1 2 1 = 1; same 0 3 = 0");
    }

    private static void actSpan(String[] span) {
        int kind = Integer.parseInt(span[0]);
        int[] s = new int[5];
        for (int i = 1; i < 5; i++) {
            s[i] = Integer.parseInt(span[i]);
        }
        String head = "act 0 " + kind + " 0 ";
        run("8 act, kind " + kind, "program = 0", head + s[1] + " " + s[3] + " = 1", head + s[2] + " " + s[4] + " = 2",
            head + (s[1] - 1) + " " + s[3] + " = -1", head + (s[2] + 1) + " " + s[3] + " = -1",
            head + s[1] + " " + (s[3] - 1) + " = -1", head + s[1] + " " + (s[4] + 1) + " = -1", "count 10 = 2");
    }

    private static void acts() {
        run("II sum", "program = 0; act 0 0 4 0 0 = 1; line 5 = 1; line -8 = 2; line 1 = 3; run 0 = 1; slot 4 0 = -2; slot 4 1 = 1; slot 0 0 = 0; got 0 = 0");
        run("II twelve lines", "rate 0 1 1 = 0; program = 0; act 0 0 0 0 0 = 1; act 0 2 1 0 0 = 2; act 0 1 2 0 0 = 3; line 1000000 = 1; line 1000000 = 2; line 1000000 = 3; line 1000000 = 4; line 1000000 = 5; line 1000000 = 6; line 1000000 = 7",
            "line 1000000 = 8; line 1000000 = 9; line 1000000 = 10; line 1000000 = 11; line 999999 = 12; rate 0 10000 1 = 0; run 0 = 3; slot 0 0 = 11999999; slot 1 0 = 119999990000; slot 2 0 = 119999990000; got 10 = 10000000000; got 11 = 9999990000");
        run("II tax rounds each line", "rate 3 1 2 = 0; program = 0; act 0 1 2 3 0 = 1; line 5 = 1; line 5 = 2; line -5 = 3; run 0 = 1; got 0 = 3; got 1 = 3; got 2 = -3",
            "slot 2 0 = 3; set 0 0 3 1 = 0; run 0 = 1; slot 2 0 = 2; set 0 0 3 2 = 0; run 0 = 1; slot 2 0 = 2; set 0 0 3 3 = 0; run 0 = 1; slot 2 0 = 3",
            "set 0 0 3 4 = 0; run 0 = 1; got 2 = -3; slot 2 0 = 1; set 0 0 3 5 = 0; run 0 = 1; got 2 = -2; slot 2 0 = 4");
        run("II flow rounds the sums up to each line", "rate 3 1 2 = 0; program = 0; act 0 2 2 3 0 = 1; line 5 = 1; line 5 = 2; line -5 = 3; line 1 = 4; run 0 = 1",
            "got 0 = 3; got 1 = 2; got 2 = -2; got 3 = 0; slot 2 0 = 3");
        run("II results are of the last tax or flow", "rate 0 1 1 = 0; rate 1 2 1 = 0; program = 0; act 0 2 0 0 0 = 1; act 0 1 1 1 0 = 2; line 4 = 1; run 0 = 2; got 0 = 8; slot 0 0 = 4");
        run("II rate is exact and in lowest terms", "rate 0 6 4 = 0; rate 1 2 3 = 0; program = 0; act 0 0 0 0 0 = 1; act 0 3 1 0 0 = 2; act 0 3 1 1 1 = 3; line 7 = 1",
            "run 0 = 3; slot 1 0 = 7; slot 1 1 = 1; set 0 2 0 1 = 0; run 0 = 3; slot 1 0 = 14; slot 1 1 = 3; bare = 1; line -7 = 1; run 0 = 3; slot 1 0 = -14; slot 1 1 = 3");
        run("II round to a multiple", "rate 0 1 2 = 0; program = 0; act 0 0 0 0 0 = 1; act 0 3 0 0 0 = 2; act 0 4 0 0 5 = 3; line 15 = 1; run 0 = 3; slot 0 0 = 10; slot 0 1 = 1",
            "set 0 2 2 5 = 0; run 0 = 3; slot 0 0 = 5; set 0 2 3 100 = 0; run 0 = 3; slot 0 0 = 100; set 0 2 4 100 = 0; run 0 = 3; slot 0 0 = 0");
        run("II add and less", "rate 0 1 6 = 0; rate 1 1 10 = 0; program = 0; act 0 0 0 0 0 = 1; act 0 3 1 0 0 = 2; act 0 3 2 0 1 = 3; act 0 5 1 2 0 = 4; line 1 = 1; run 0 = 4",
            "slot 1 0 = 4; slot 1 1 = 15; set 0 3 2 1 = 0; run 0 = 4; slot 1 0 = 1; slot 1 1 = 15; set 0 3 1 0 = 0; run 0 = 4; slot 1 0 = 1; slot 1 1 = 3",
            "set 0 3 1 1 = 0; run 0 = 4; slot 1 0 = 0; slot 1 1 = 1");
        run("II part without a split, and a split that has fewer parts", "program = 0; act 0 0 0 0 0 = 1; act 0 7 0 3 0 = 2; line 9 = 1; run 0 = 2; slot 0 0 = 0; weight 1 1 = 3",
            "program = 1; act 1 0 0 0 0 = 1; act 1 6 0 0 1 = 2; act 1 7 1 2 0 = 3; act 1 6 0 0 0 = 4; act 1 7 2 2 0 = 5; run 1 = 5; slot 1 0 = 3; slot 2 0 = 0; part 0 = 5; part 2 = 0",
            "run 0 = 2; part 0 = 0; part 1 = 0");
        run("II carry", "rate 0 1 4 = 0; program = 0; act 0 0 0 0 0 = 1; act 0 3 0 0 0 = 2; act 0 8 0 0 0 = 3; line -3 = 1; run 0 = 3; slot 0 0 = -1; slot 0 1 = 1",
            "carried 0 0 = 1; carried 0 1 = 4; run 0 = 3; slot 0 0 = -1; carried 0 0 = 1; carried 0 1 = 2; run 0 = 3; run 0 = 3; slot 0 0 = 0; carried 0 0 = 0; carried 0 1 = 1",
            "program = 1; carried 1 0 = 0; run 0 = 3; carried 0 1 = 4; carried 1 1 = 1");
        run("II cap", "rate 0 1 2 = 0; program = 0; act 0 0 0 0 0 = 1; act 0 3 0 0 0 = 2; act 0 9 0 0 3 = 3; line 7 = 1; run 0 = 3; slot 0 0 = 3; slot 0 1 = 1; set 0 2 0 4 = 0; run 0 = 3",
            "slot 0 0 = 7; slot 0 1 = 2; set 0 2 1 4 = 0; run 0 = 3; slot 0 0 = 4; slot 0 1 = 1; set 0 2 1 3 = 0; run 0 = 3; slot 0 0 = 7; bare = 1; line -9 = 1; set 0 2 1 0 = 0; run 0 = 3; slot 0 0 = 0");
        run("II book", "program = 0; act 0 0 0 0 0 = 1; act 0 10 0 7 0 = 2; act 0 10 0 6 1 = 3; line 12 = 1; run 0 = 3; run 0 = 3; account 7 = 24; account 6 = -24; account 0 = 0");
        run("II days round what is added, by mode 1", "rate 0 1 2 = 0; program = 0; act 0 0 0 0 0 = 1; act 0 12 0 0 1 = 2; line 5 = 1; run 0 = 2; slot 0 0 = 7; bare = 1; line 7 = 1; run 0 = 2; slot 0 0 = 11",
            "set 0 1 0 3 = 0; run 0 = 2; slot 0 0 = 25; rate 1 1 3 = 0; program = 1; act 1 0 0 0 0 = 1; act 1 3 0 0 1 = 2; act 1 12 0 0 2 = 3; run 1 = 3; slot 0 0 = 16; slot 0 1 = 3",
            "bare = 1; line 1 = 1; set 0 1 0 30 = 0; run 0 = 2; slot 0 0 = 1");
        shown();
    }

    private static void shown() {
        run("II shown", "program = 0; act 0 0 0 0 0 = 1; act 0 11 1 0 4 = 2; line 9 = 1; rate 0 1 3 = 0; run 0 = 2; slot 1 2 = 1; slot 0 2 = 0",
            "act 0 3 2 1 0 = 3; act 0 3 3 0 0 = 4; run 0 = 4; slot 2 2 = 1; slot 3 2 = 0; act 0 3 1 0 0 = 5; run 0 = 5; slot 1 2 = 0; slot 2 2 = 1");
        run("II shown by add", "program = 0; act 0 11 1 0 0 = 1; act 0 5 0 1 0 = 2; act 0 5 1 2 1 = 3; act 0 5 2 3 0 = 4; run 0 = 4; slot 0 2 = 1; slot 1 2 = 1; slot 2 2 = 0");
        run("II shown stays by 4, 8, 9, 12", "rate 0 1 2 = 0; line 9 = 1; program = 0; act 0 0 0 0 0 = 1; act 0 11 0 0 0 = 2; act 0 4 0 0 2 = 3; act 0 8 0 0 0 = 4; act 0 9 0 0 3 = 5; act 0 12 0 0 2 = 6",
            "run 0 = 6; slot 0 2 = 1; act 0 1 0 0 0 = 7; run 0 = 7; slot 0 2 = 0; program = 1; act 1 0 0 0 0 = 1; act 1 4 0 0 2 = 2; act 1 8 0 0 0 = 3; act 1 9 0 0 3 = 4; act 1 12 0 0 2 = 5; run 1 = 5; slot 0 2 = 0");
        run("II sum, tax and flow are not shown", "program = 0; act 0 11 0 0 0 = 1; act 0 11 1 0 0 = 2; act 0 11 2 0 0 = 3; act 0 0 0 0 0 = 4; act 0 1 1 0 0 = 5; act 0 2 2 0 0 = 6; run 0 = 6",
            "slot 0 2 = 0; slot 1 2 = 0; slot 2 2 = 0");
        run("II a part is shown as the split slot was then", "line 9 = 1; program = 0; act 0 0 0 0 0 = 1; act 0 11 1 0 0 = 2; act 0 6 1 0 0 = 3; act 0 0 1 0 0 = 4; act 0 7 2 0 0 = 5; act 0 6 0 0 0 = 6; act 0 7 3 0 0 = 7",
            "run 0 = 7; slot 2 2 = 1; slot 3 2 = 0; program = 1; act 1 11 4 0 0 = 1; act 1 7 4 0 0 = 2; run 1 = 2; slot 4 2 = 0");
        run("II a leak", "line 9 = 1; program = 0; act 0 0 0 0 0 = 1; act 0 11 1 0 0 = 2; act 0 10 0 0 0 = 3; run 0 = 3; count 2 = 0; act 0 10 1 0 0 = 4; act 0 10 1 0 1 = 5; run 0 = 5; count 2 = 2",
            "years 0 10 = 10; count 2 = 22; rate 0 1 2 = 0; act 0 3 0 0 0 = 6; act 0 10 0 0 0 = 7; run 0 = -5; count 2 = 22; least 0 5 -1 0 0 = 0; count 2 = 22");
    }

    private static void fails() {
        run("II whole", "rate 0 1 2 = 0; line 3 = 1; program = 0; act 0 0 0 0 0 = 1; act 0 10 0 0 0 = 2; act 0 3 0 0 0 = 3; act 0 6 0 0 0 = 4; run 0 = -5; failed = 3; account 0 = 0; slot 0 0 = 3; slot 0 1 = 2; part 0 = 0",
            "set 0 2 0 1 = 0; run 0 = 4; failed = -2; account 0 = 3");
        run("II a failed split leaves the parts", "rate 0 1 2 = 0; line 3 = 1; program = 0; act 0 0 0 0 0 = 1; act 0 6 0 0 0 = 2; act 0 3 0 0 0 = 3; act 0 6 0 0 0 = 4; run 0 = -5; part 0 = 2; part 1 = 1");
        // 10^6 times 10^4 twice is 10^14, beyond 2^40; 2^20 times 2^20 is 2^40 itself.
        run("II spent by an upper number", "rate 0 10000 1 = 0; line 1000000 = 1; program = 0; act 0 0 0 0 0 = 1; act 0 3 0 0 0 = 2; act 0 3 0 0 0 = 3; run 0 = -6; failed = 2; slot 0 0 = 10000000000",
            "bare = 1; line -1000000 = 1; run 0 = -6; slot 0 0 = -10000000000");
        run("II 2^40 is not spent", "rate 0 1024 1 = 0; rate 1 1 1 = 0; line 1024 = 1; program = 0; act 0 0 0 0 0 = 1; act 0 3 0 0 0 = 2; act 0 3 0 0 0 = 3; act 0 3 0 0 0 = 4; run 0 = 4; slot 0 0 = 1099511627776",
            "act 0 12 1 2 1 = 5; run 0 = 5; act 0 5 0 1 0 = 6; run 0 = 6; act 0 0 1 0 0 = 7; act 0 5 0 1 0 = 8; run 0 = -6; failed = 7; slot 0 0 = 1099511627776; bare = 1; line -1024 = 1; run 0 = -6; slot 0 0 = -1099511627776",
            "set 0 7 1 1 = 0; run 0 = 8; slot 0 0 = -1099511626752; bare = 1; line 1024 = 1; run 0 = 8; slot 0 0 = 1099511626752");
        run("II spent by a round", "rate 0 1024 1 = 0; line 1024 = 1; program = 0; act 0 0 0 0 0 = 1; act 0 3 0 0 0 = 2; act 0 3 0 0 0 = 3; act 0 3 0 0 0 = 4; act 0 4 0 5 3 = 5; run 0 = -6; failed = 4; slot 0 0 = 1099511627776",
            "set 0 4 4 3 = 0; run 0 = 5; slot 0 0 = 1099511627775; bare = 1; line -1024 = 1; run 0 = -6; set 0 4 5 3 = 0; run 0 = 5; slot 0 0 = -1099511627775");
        run("II spent by a lower number", "rate 0 1 1000 = 0; rate 1 1 512 = 0; line 1 = 1; program = 0; act 0 0 0 0 0 = 1; act 0 3 0 0 0 = 2; act 0 3 0 0 0 = 3; act 0 3 0 0 0 = 4; run 0 = -6; failed = 3; slot 0 0 = 1; slot 0 1 = 1000000",
            "rate 0 1 1024 = -1; program = 1; act 1 0 0 0 0 = 1; act 1 3 0 0 1 = 2; act 1 3 0 0 1 = 3; act 1 3 0 0 2 = 4; rate 2 1 4 = 0; run 1 = 4; slot 0 1 = 1048576; rate 2 1 5 = 0; run 1 = -6; slot 0 1 = 262144; rate 2 2 10 = 0; run 1 = -6");
        run("II spent by a sum's lower number", "rate 0 1 997 = 0; rate 1 1 991 = 0; rate 2 1 3 = 0; line 1 = 1; program = 0; act 0 0 0 0 0 = 1; act 0 3 1 0 0 = 2; act 0 3 2 0 1 = 3; act 0 5 1 2 0 = 4; run 0 = 4; slot 1 0 = 1988; slot 1 1 = 988027",
            "act 0 3 3 0 2 = 5; act 0 5 3 1 1 = 6; run 0 = -6; failed = 5; slot 3 0 = 1; slot 3 1 = 3; slot 1 1 = 988027");
        run("II spent by days, as ahead of that time", "rate 0 10000 1 = 0; line 5 = 1; program = 0; act 0 0 0 0 0 = 1; act 0 12 0 0 2 = 2; run 0 = 2; slot 0 0 = 500100005; set 0 1 0 3 = 0; run 0 = -6; failed = 1; slot 0 0 = 500100005");
        run("II spent by carry", "rate 0 1 997 = 0; rate 1 1 991 = 0; rate 2 1 3 = 0; line 1 = 1; program = 0; act 0 0 0 0 0 = 1; act 0 3 1 0 0 = 2; act 0 10 0 0 0 = 3; act 0 8 1 0 0 = 4; act 0 3 2 0 1 = 5; act 0 8 2 0 0 = 6; run 0 = 6",
            "carried 0 0 = 1988; carried 0 1 = 988027; account 0 = 1; act 0 3 3 0 2 = 7; act 0 8 3 0 0 = 8; run 0 = -6; failed = 7; slot 3 0 = 1; slot 3 1 = 3; slot 1 0 = 0; account 0 = 1; carried 0 0 = 1988; carried 0 1 = 988027");
        run("II a spent slot stays shown or not", "rate 0 10000 1 = 0; line 1000000 = 1; program = 0; act 0 0 0 0 0 = 1; act 0 11 1 0 0 = 2; act 0 3 1 1 0 = 3; act 0 3 0 1 0 = 4; run 0 = -6; slot 0 2 = 0; slot 0 0 = 1000000; slot 1 2 = 1");
    }

    private static void splits() {
        String head = "program = 0; act 0 0 0 0 0 = 1; weight 0 -1 = 0;";
        run("III rule 0", head, "weight 0 1 = 1; weight 0 1 = 2; weight 0 1 = 3; act 0 6 0 0 0 = 2; line 101 = 1; run 0 = 2; part 0 = 34; part 1 = 34; part 2 = 33",
            "bare = 1; line -100 = 1; run 0 = 2; part 0 = -33; part 1 = -33; part 2 = -34");
        run("III rule 0, the greatest rests", head, "weight 0 3 = 1; weight 0 5 = 2; weight 0 2 = 3; act 0 6 0 0 0 = 2; line 7 = 1; run 0 = 2; part 0 = 2; part 1 = 4; part 2 = 1",
            "bare = 1; line 1 = 1; run 0 = 2; part 0 = 0; part 1 = 1; part 2 = 0; bare = 1; line 2 = 1; run 0 = 2; part 0 = 1; part 1 = 1; part 2 = 0");
        run("III rule 1, the first with a weight", head, "weight 0 0 = 1; weight 0 3 = 2; weight 0 5 = 3; weight 0 2 = 4; act 0 6 0 1 0 = 2; line 7 = 1; run 0 = 2; part 0 = 0; part 1 = 3; part 2 = 3; part 3 = 1",
            "bare = 1; line -1 = 1; run 0 = 2; part 0 = 0; part 1 = 0; part 2 = 0; part 3 = -1");
        run("III rule 1, from the first on", head, "weight 0 1 = 1; weight 0 1 = 2; weight 0 1 = 3; act 0 6 0 1 0 = 2; line 5 = 1; run 0 = 2; part 0 = 2; part 1 = 2; part 2 = 1; bare = 1; line -5 = 1; run 0 = 2; part 0 = -1; part 1 = -2; part 2 = -2");
        run("III rule 2, the last takes what is left", head, "weight 0 1 = 1; weight 0 1 = 2; weight 0 0 = 3; act 0 6 0 2 0 = 2; line 5 = 1; run 0 = 2; part 0 = 3; part 1 = 3; part 2 = -1",
            "bare = 1; line -5 = 1; run 0 = 2; part 0 = -3; part 1 = -3; part 2 = 1");
        run("III rule 3, the first takes what is left", head, "weight 0 0 = 1; weight 0 1 = 2; weight 0 1 = 3; act 0 6 0 3 0 = 2; line 5 = 1; run 0 = 2; part 0 = -1; part 1 = 3; part 2 = 3");
        run("III one weight, and eight", head, "weight 0 7 = 1; act 0 6 0 0 0 = 2; line 5 = 1; run 0 = 2; part 0 = 5; part 1 = 0; set 0 1 2 0 = 0; run 0 = 2; part 0 = 5; weight 1 1 = 3; weight 1 1 = 4; weight 1 1 = 5; weight 1 1 = 6",
            "weight 1 1 = 7; weight 1 1 = 8; set 0 1 0 1 = 0; bare = 1; line 15 = 1; run 0 = 2; part 6 = 2; part 7 = 1; set 0 1 2 1 = 0; run 0 = 2; part 6 = 2; part 7 = 1; set 0 1 3 1 = 0; run 0 = 2; part 0 = 1");
    }

    private static void laws() {
        String sum = "program = 0; act 0 0 0 0 0 = 1;";
        run("IV close", sum, "act 0 10 0 0 0 = 2; least 0 0 -1 -2 2 = -2; least 0 0 -1 0 0 = 9999999; act 0 10 0 1 1 = 3; least 0 0 -1 -1000 1000 = 9999999");
        run("IV close, not of a run that fails", sum, "rate 0 1 2 = 0; act 0 10 0 0 0 = 2; act 0 3 1 0 0 = 3; act 0 10 1 1 0 = 4; least 0 0 -1 1 9 = 2; least 0 4 -1 0 9 = 1; least 0 4 -1 2 2 = 9999999");
        run("IV mirror", sum, "rate 0 1 2 = 0; act 0 3 0 0 0 = 2; act 0 4 0 4 1 = 3; act 0 10 0 0 0 = 4; least 0 1 -1 0 9 = 1; least 0 1 -1 -4 9 = -3; set 0 2 1 1 = 0; least 0 1 -1 -99 99 = 9999999",
            "set 0 2 5 1 = 0; least 0 1 -1 2 9 = 3; set 0 2 3 1 = 0; least 0 1 -1 -99 99 = 9999999");
        run("IV mirror, one fails", sum, "rate 0 1 2 = 0; act 0 3 0 0 0 = 2; act 0 9 0 1 0 = 3; act 0 10 0 0 1 = 4; least 0 1 -1 -5 5 = -5; act 0 10 0 0 0 = 5; least 0 1 -1 -5 5 = -5; least 0 1 -1 0 0 = 9999999; least 0 1 -1 0 5 = 1; least 0 1 -1 2 2 = 9999999");
        run("IV same", sum, "act 0 10 0 0 0 = 2; program = 1; act 1 0 0 0 0 = 1; act 1 9 0 0 7 = 2; act 1 10 0 0 0 = 3; least 0 2 1 0 20 = 8; least 1 2 0 -9 7 = 9999999; least 0 2 0 -9 9 = 9999999",
            "least 0 2 2 0 1 = -1; least 0 2 -1 0 1 = -1; rate 0 1 2 = 0; act 1 3 1 0 0 = 4; act 1 10 1 1 0 = 5; act 1 10 1 1 1 = 6; least 0 2 1 0 20 = 1; least 1 2 0 2 6 = 3; least 1 2 1 0 20 = 9999999");
        run("IV share", sum, "least 0 3 -1 0 9 = 9999999; weight 0 1 = 3; weight 0 1 = 4; weight 0 1 = 5; weight 0 1 = 6; weight 0 1 = 7; weight 0 1 = 8; act 0 6 0 2 0 = 2; least 0 3 -1 0 1 = 9999999; least 0 3 -1 0 20 = 2",
            "set 0 1 0 0 = 0; least 0 3 -1 -500 500 = 9999999; set 0 1 3 0 = 0; least 0 3 -1 -20 20 = -20; rate 0 1 2 = 0; act 0 3 0 0 0 = 3; act 0 10 0 0 0 = 4; least 0 3 -1 0 20 = 2; least 0 3 -1 5 20 = 6");
        run("IV share, of the last split", sum, "weight 0 0 = 3; act 0 6 0 2 0 = 2; least 0 3 -1 0 9 = 1; set 0 1 2 1 = 0; least 0 3 -1 0 9 = 9999999; weight 2 -1 = 0; weight 2 1 = 1; weight 2 1 = 2; weight 2 2 = 3; set 0 1 2 2 = 0; least 0 3 -1 2 2 = 2; least 0 3 -1 -2 -2 = -2; set 0 1 2 1 = 0; act 0 6 0 2 0 = 3; least 0 3 -1 0 9 = 1; act 0 6 0 0 1 = 4; least 0 3 -1 0 9 = 9999999");
        run("IV fail", sum, "least 0 4 -1 -9 9 = 9999999; rate 0 10000 1 = 0; act 0 3 0 0 0 = 2; act 0 3 0 0 0 = 3; least 0 4 -1 10990 11000 = 10996; least 0 4 -1 -11000 -10000 = -11000; least 0 4 -1 -10995 -10995 = 9999999");
        run("IV leak", sum, "act 0 11 1 0 0 = 2; act 0 10 0 0 0 = 3; least 0 5 -1 0 9 = 9999999; rate 0 1 2 = 0; act 0 10 1 0 0 = 4; least 0 5 -1 3 9 = 3; act 0 3 2 0 0 = 5; act 0 10 2 0 0 = 6; least 0 5 -1 3 9 = 4; count 2 = 0");
        // 1 / 10 added ten times is 0.9999999999999999 as doubles; 7 / 100 of 150 is 10.500000000000002.
        run("IV float", sum, "rate 0 7 100 = 0; act 0 3 1 0 0 = 2; act 0 4 1 2 1 = 3; act 0 10 1 0 0 = 4; least 0 6 -1 0 99 = 9999999; set 0 2 1 1 = 0; least 0 6 -1 0 300 = 150; set 0 2 3 1 = 0; least 0 6 -1 0 300 = 100");
        run("IV float by a cast", sum, "rate 0 1 10 = 0; act 0 3 1 0 0 = 2; act 0 5 2 1 0 = 3; act 0 5 2 1 0 = 4; act 0 5 2 1 0 = 5; act 0 5 2 1 0 = 6; act 0 5 2 1 0 = 7; act 0 5 2 1 0 = 8; act 0 5 2 1 0 = 9",
            "act 0 5 2 1 0 = 10; act 0 5 2 1 0 = 11; act 0 5 2 1 0 = 12; act 0 10 2 0 0 = 13; least 0 6 -1 0 9 = 1; least 0 6 -1 5 5 = 9999999");
        doubles();
        run("19 least", "least 0 0 -1 0 0 = -1; program = 0; least 0 0 -1 0 0 = 9999999; least 0 -1 -1 0 0 = -1; least 0 7 -1 0 0 = -1; least 1 0 -1 0 0 = -1; least -1 0 -1 0 0 = -1; least 0 0 0 0 0 = -1; least 0 0 -2 0 0 = -1",
            "least 0 2 0 0 0 = 9999999; least 0 0 -1 1 0 = -1; least 0 0 -1 0 2000 = 9999999; least 0 0 -1 0 2001 = -1; least 0 0 -1 1000000 1000000 = 9999999; least 0 0 -1 1000000 1000001 = -1; least 0 0 -1 -1000000 -999000 = 9999999",
            "least 0 0 -1 -1000001 -999000 = -1; least 0 0 -1 -2147483648 2147483647 = -1; least 0 0 -1 2147483647 -2147483648 = -1");
        run("19 nothing else is changed", "rate 0 1 3 = 0; program = 0; act 0 1 0 0 0 = 1; act 0 3 1 0 0 = 2; act 0 8 1 0 0 = 3; act 0 6 0 0 0 = 4; act 0 11 2 0 0 = 5; act 0 10 2 1 0 = 6; line 8 = 1; line 11 = 2; run 0 = 6; least 0 0 -1 100 200 = 100",
            "least 0 6 -1 100 200 = 9999999; order 0 = 9999999; mend 0 0 100 200 = -3; count 0 = 2; count 2 = 1; account 1 = 7; carried 0 0 = 1; carried 0 1 = 3; got 0 = 3; got 1 = 4; part 0 = 4; part 1 = 3; slot 0 0 = 7; slot 1 0 = 2; slot 2 2 = 1");
        run("19 from accounts and carried 0", "rate 0 1 2 = 0; program = 0; act 0 0 0 0 0 = 1; act 0 3 0 0 0 = 2; act 0 8 0 0 0 = 3; act 0 10 0 0 0 = 4; line 7 = 1; run 0 = 4; account 0 = 3; carried 0 0 = 1; least 0 0 -1 0 9 = 2; least 0 0 -1 1 1 = 9999999");
    }

    /** 49 times 1 / 49 of 1 is 1 - 2^-53 as doubles: a gap that is 0 exactly, and can be made as great as one likes. */
    private static void doubles() {
        String gap = "rate 0 1 49 = 0; rate 1 49 1 = 0; rate 2 8192 1 = 0; rate 3 4 1 = 0; program = 0; act 0 0 1 0 0 = 1; act 0 3 1 1 0 = 2; act 0 3 1 1 1 = 3; act 0 0 0 0 0 = 4;";
        String six = "act 0 3 1 1 2 = 6; act 0 3 1 1 2 = 7; act 0 3 1 1 2 = 8; act 0 3 1 1 2 = 9; act 0 3 1 1 2 = 10; act 0 3 1 1 2 = 11;";
        String split = "act 0 3 1 1 2 = 12; act 0 3 1 1 3 = 13; act 0 6 1 0 0 = 14; act 0 7 2 0 0 = 15; act 0 10 2 0 0 = 16;";
        run("IV float splits -2^40", gap, "act 0 5 1 0 1 = 5;", six, split, "least 0 6 -1 1 1 = 1; rate 3 5 1 = 0; least 0 6 -1 1 1 = 9999999; least 0 6 -1 0 0 = 9999999");
        run("IV float splits 2^40", gap, "act 0 5 0 1 1 = 5;", six.replace(" 1 1 2 ", " 0 0 2 "), split.replace("3 1 1", "3 0 0").replace("6 1", "6 0"),
            "least 0 6 -1 1 1 = 1; rate 3 5 1 = 0; least 0 6 -1 1 1 = 9999999");
        String[] ends = {"act 0 5 1 0 1 = 5;", "act 0 5 0 1 1 = 5;"};
        for (String end : ends) {
            String s = end == ends[0] ? "1" : "0";
            // The slot goes to 2^53 and on to 2^66, but is kept at 2^50 both times.
            run("IV float is kept within 2^50", gap, end, six.replace(" 1 1 2 ", " " + s + " " + s + " 2 "), "act 0 3 S S 2 = 12; act 0 3 S S 2 = 13; act 0 5 4 S 0 = 14; act 0 3 S S 2 = 15;".replace("S", s),
                "act 0 5 4 S 1 = 16; act 0 10 4 0 0 = 17; least 0 6 -1 1 1 = 9999999; act 0 10 S 0 0 = 18; least 0 6 -1 1 1 = 1".replace("S", s));
            // 2^38 grows by 8193 a day; a gain beyond every long ends at 2^50, too.
            run("IV float is kept within 2^50 by days", gap, end, six.replace(" 1 1 2 ", " " + s + " " + s + " 2 "), "act 0 3 S S 2 = 12; act 0 12 S 2 30 = 13; rate 4 10000 1 = 0; act 0 12 S 4 3 = 14; act 0 5 4 S 0 = 15; act 0 12 S 2 1 = 16;".replace("S", s),
                "act 0 5 4 S 1 = 17; act 0 10 4 0 0 = 18; least 0 6 -1 1 1 = 9999999; act 0 10 S 0 0 = 19; least 0 6 -1 1 1 = 1".replace("S", s));
        }
        for (String end : ends) {
            String s = end == ends[0] ? "1" : "0";
            // Beyond 2^50 and beyond every long the slot keeps its side of 0: a cap on the other side leaves it.
            String cap = "act 0 9 S T 0 = 16; act 0 10 S 0 0 = 17; least 0 6 -1 1 1 = 1; set 0 15 U 0 = 0; least 0 6 -1 1 1 = 9999999"
                .replace("S", s).replace("T", s.equals("1") ? "0" : "1").replace("U", s);
            String grown = six.replace(" 1 1 2 ", " " + s + " " + s + " 2 ") + "act 0 3 S S 2 = 12; act 0 3 S S 2 = 13;".replace("S", s);
            run("IV float keeps its side", gap, end, grown, "act 0 3 S S 2 = 14; act 0 3 S S 2 = 15;".replace("S", s), cap);
            run("IV float keeps its side by days", gap, end, grown, "rate 4 10000 1 = 0; act 0 3 S S 2 = 14; act 0 12 S 4 1 = 15;".replace("S", s), cap);
        }
        run("IV float begins with 0", "rate 0 1 1 = 0; program = 0; act 0 0 1 0 0 = 1; act 0 5 0 1 0 = 2; act 0 10 0 0 0 = 3; act 0 7 3 0 0 = 4; act 0 10 3 1 0 = 5; act 0 6 1 0 0 = 6; act 0 8 1 0 0 = 7; least 0 6 -1 -9 9 = 9999999");
        run("IV float carries", "rate 0 1 10 = 0; program = 0; act 0 0 1 0 0 = 1; act 0 3 1 1 0 = 2; act 0 5 2 1 0 = 3; act 0 8 2 0 0 = 4; act 0 5 3 1 0 = 5; act 0 8 3 0 0 = 6; act 0 10 3 1 0 = 7; least 0 6 -1 -30 30 = 9999999; told 0 6 2 = 1");
    }

    private static void searches() {
        run("20 order", "order 0 = -1; program = 0; order 0 = 9999999; rate 0 1 2 = 0; act 0 2 0 0 4 = 1; line 1 = 1; order 0 = 9999999; line 1 = 2; order 0 = 1; bare = 2; line 2 = 1; line 4 = 2; order 0 = 9999999; order 1 = -1; order -1 = -1",
            "line 6 = 3; line 1 = 4; line 8 = 5; order 0 = 9999999; line 1 = 6; order 0 = 3; act 0 1 1 0 0 = 2; order 0 = 9999999; line 0 = 7; order 0 = -2; order 3 = -1");
        run("20 order, by its number", "program = 0; rate 0 1 2 = 0; act 0 2 0 0 4 = 1; line 2 = 1; line 1 = 2; line 2 = 3; line 1 = 4; order 0 = 3; bare = 4; line 1 = 1; line 2 = 2; line 2 = 3; line 1 = 4; order 0 = 9; bare = 4",
            "line 1 = 1; line 2 = 2; line 2 = 3; line 2 = 4; line 2 = 5; line 1 = 6; order 0 = 153");
        run("20 order, of results ahead of a failing act", "program = 0; rate 0 1 2 = 0; act 0 2 0 0 4 = 1; act 0 0 1 0 0 = 2; act 0 3 1 1 0 = 3; act 0 10 1 0 0 = 4; line 1 = 1; line 1 = 2; line 1 = 3; run 0 = -5; order 0 = 1");
        run("21 drift", "rate 0 1 2 = 0; drift 0 0 1 1000 0 = 0; drift 0 0 2 1 0 = 1; drift 0 0 2 1 1 = 0; drift 0 0 12 1 0 = 6; drift 0 4 12 1 1 = -6; drift 0 4 12 1 0 = 0; drift 0 5 12 1 0 = 6; drift 0 5 12 1 1 = 0; drift 0 3 3 0 0 = 0",
            "drift 0 1 2 1 1 = -1; drift 0 1 2 1 0 = 0; drift 0 1 2 3 0 = 1; drift 0 1 12 3 0 = 6; drift 0 1 12 2 0 = 0; drift 0 2 2 1 1 = -1; drift 0 3 2 1 0 = 1; rate 1 1 3 = 0; drift 1 0 3 2 0 = 1; drift 1 0 3 1 0 = 0; drift 1 0 3 1 1 = -1",
            "drift 1 0 12 1000 0 = 4; drift 1 0 12 1000 1 = -4; rate 2 10000 100 = 0; drift 2 3 12 1000 0 = 0; rate 3 9999 100 = 0; drift 3 5 12 1000 0 = 11; drift 3 4 12 1000 1 = -11");
        run("21 drift refuses", "drift -1 0 1 1 0 = IAE; drift 8 0 1 1 0 = IAE; drift 0 -1 1 1 0 = IAE; drift 0 6 1 1 0 = IAE; drift 0 0 0 1 0 = IAE; drift 0 0 13 1 0 = IAE; drift 0 0 1 -1 0 = IAE; drift 0 0 1 1001 0 = IAE; drift 0 0 1 1 2 = IAE",
            "drift 0 0 1 1 -1 = IAE; drift 0 0 12 1000 1 = 0; rate 0 1 100 = 0; drift 0 0 1 1 0 = 0; rate 0 1 101 = 0; drift 0 0 1 1 0 = IAE; rate 0 200 200 = 0; drift 0 0 1 1 0 = IAE");
        run("22 mend", "rate 0 1 2 = 0; program = 0; act 0 0 0 0 0 = 1; act 0 3 1 0 0 = 2; act 0 4 1 4 1 = 3; act 0 10 1 0 0 = 4; mend 0 1 -9 9 = 20; told 0 2 2 = 4; told 0 2 3 = 1; set 0 2 0 1 = 0; mend 0 1 -9 9 = 9999999",
            "set 0 2 5 1 = 0; mend 0 1 0 300 = 20; mend 0 1 0 301 = -1; mend 0 2 0 9 = -1; mend 0 7 0 9 = -1; mend 0 -1 0 9 = -1; mend 1 1 0 9 = -1; mend -1 1 0 9 = -1; mend 0 1 1 0 = -1; mend 0 1 999999 1000001 = -1; mend 0 1 -1000001 -1000000 = -1",
            "mend 0 0 0 9 = -3; mend 0 0 0 0 = 9999999; told 0 2 2 = 5");
        run("22 mend has nothing to change", "program = 0; act 0 0 0 0 0 = 1; act 0 10 0 0 1 = 2; mend 0 0 1 9 = -3; told 0 1 3 = 1; program = 1; act 1 0 0 0 0 = 1; act 1 10 0 0 0 = 2; act 1 10 0 1 0 = 3; mend 1 0 1 1 = -3; act 1 4 1 0 1 = 4; mend 1 0 1 1 = -3");
        run("22 mend by a rule", "program = 0; act 0 0 0 0 0 = 1; act 0 6 0 1 0 = 2; act 0 7 1 0 0 = 3; act 0 10 1 0 0 = 4; mend 0 1 0 9 = 12; told 0 1 2 = 1; weight 0 0 = 3; set 0 1 2 0 = 0; mend 0 3 0 9 = 10; set 0 1 3 0 = 0; mend 0 3 -9 9 = 9999999");
        run("22 mend by tax, flow and show", "rate 0 1 2 = 0; program = 0; act 0 1 0 0 4 = 1; act 0 10 0 0 0 = 2; mend 0 1 0 9 = 0; program = 1; act 1 11 5 5 0 = 1; act 1 2 0 0 4 = 2; act 1 10 0 0 0 = 3; mend 1 1 0 9 = 10; told 1 1 3 = 4",
            "program = 2; act 2 0 0 0 0 = 1; act 2 3 1 0 0 = 2; act 2 11 1 1 5 = 3; act 2 10 1 0 0 = 4; mend 2 1 0 9 = 20; mend 2 5 0 9 = -3; told 2 2 3 = 5; told 2 2 2 = 1");
    }

    private static void roundings() {
        String[] due = {"-3 -2 -2 -1 0 1 2 2 3", "-2 -2 -2 0 0 0 2 2 2", "-2 -1 -1 0 0 0 1 1 2", "-3 -2 -2 -1 0 1 2 2 3", "-3 -2 -2 -1 0 0 1 1 2", "-2 -1 -1 0 0 1 2 2 3"};
        int[] uppers = {-5, -4, -3, -1, 0, 1, 3, 4, 5};
        for (int mode = 0; mode < 6; mode++) {
            String[] answers = due[mode].split(" ");
            for (int i = 0; i < uppers.length; i++) {
                boolean third = uppers[i] == 4 || uppers[i] == -4;
                // 4 / 2.5 stands for a number that is in no middle: 1.6.
                String call = third ? 2 * uppers[i] + " 5 1 " : uppers[i] + " 2 1 ";
                run("24 rounded, mode " + mode, "rounded " + call + mode + " = " + answers[i]);
            }
        }
        run("24 rounded to a multiple", "rounded 15 2 5 0 = 10; rounded 15 2 5 1 = 10; rounded 5 2 5 1 = 0; rounded 5 2 5 0 = 5; rounded 25 2 5 1 = 10; rounded -25 2 5 1 = -10; rounded -15 2 5 1 = -10; rounded 10 1 5 3 = 10; rounded -10 1 5 4 = -10",
            "rounded 1000000000000 1 1 0 = 1000000000000; rounded -1000000000000 1 7 4 = -1000000000006; rounded 1000000000000 1 1000000 5 = 1000000000000; rounded 1 1000000 1000000 5 = 1000000; rounded 500000000000 1000000 1000000 0 = 1000000; rounded 500000000000 1000000 1000000 1 = 0");
        run("24 rounded refuses", "rounded 1 0 1 0 = IAE; rounded 1 1000001 1 0 = IAE; rounded 1 1 0 0 = IAE; rounded 1 1 1000001 0 = IAE; rounded 1 -1 1 0 = IAE; rounded 1 1 -1 0 = IAE; rounded 1000000000001 1 1 0 = IAE; rounded -1000000000001 1 1 0 = IAE",
            "rounded -9223372036854775808 1 1 0 = IAE; rounded 9223372036854775807 1 1 0 = IAE; rounded 1 1 1 -1 = IAE; rounded 1 1 1 6 = IAE");
    }

    private static void tapes() {
        run("25 tape", "tape 0 1 0 = 0; tape 5 4 64 = 64; tape 5 4 65 = -1; tape -1 1 1 = -1; tape 6 1 1 = -1; tape 0 0 1 = -1; tape 0 5 1 = -1; tape 0 1 -1 = -14; tape 6 1 -1 = -1; tape 0 0 -1 = -1; tape 0 1 -2147483648 = -14; count 3 = 2",
            "clear 0 = 1; clear 5 = 4; tape 0 3 2 = 2; put 0 1 7 = 1; tape 0 3 -1 = -14; at 0 1 = 7; tape 0 3 65 = -1; at 0 1 = 7; tape 0 3 2 = 2; at 0 1 = 0; put 0 1 7 = 1; tape 0 2 1 = 1; at 0 1 = ISE; at 0 0 = 0");
        run("29 load", "load -1 0 0 = -1; load 6 0 0 = -1; load 0 0 13 = -1; load 0 0 -1 = -1; load 0 0 0 = -11; tape 0 2 14 = 14; put 0 0 -300 = 1; put 0 1 5 = 1; load 0 0 12 = 12; count 0 = 12; load 0 0 2 = 2; program = 0; act 0 0 0 0 0 = 1; run 0 = 1",
            "slot 0 0 = -295; load 0 13 1 = 1; load 0 14 0 = 0; count 0 = 0; load 0 14 1 = -13; load 0 15 0 = -13; load 0 -1 1 = -13; load 0 -1 0 = -13; load 0 2147483647 12 = -13; load 0 3 12 = -13; load 0 0 13 = -1; tape 1 1 3 = 3; load 1 9 1 = -12",
            "image 2 = 1; load 2 0 0 = -12; tape 3 4 3 = 3; put 3 1 1000000 = 1; put 3 2 -1000001 = 1; line 5 = 1; load 3 0 3 = -3; count 0 = 1; load 3 0 2 = 2; run 0 = 1; slot 0 0 = 1000000; put 3 2 4294967296 = 1; load 3 2 1 = -3; load 3 2 2 = -13; count 3 = 10",
            "tape 4 3 2 = 2; put 4 0 -1000000 = 1; load 4 0 2 = 2; run 0 = 1; slot 0 0 = -1000000");
        run("30 clear", "clear -1 = -1; clear 6 = -1; clear 0 = 0; tape 0 1 1 = 1; clear 0 = 1; clear 0 = 0; tape 0 2 1 = 1; clear 0 = 2; tape 0 3 1 = 1; clear 0 = 3; tape 0 4 1 = 1; clear 0 = 4; image 0 = 0; clear 0 = 5; clear 0 = 0; at 0 0 = ISE; put 0 0 1 = -11");
        run("31 put", "put -1 0 1 = -1; put 6 0 1 = -1; put 0 0 1 = -11; image 0 = 0; put 0 0 1 = -12; put 0 -1 1 = -12; tape 0 1 2 = 2; put 0 2 1 = -13; put 0 -1 1 = -13; put 0 0 128 = 1; at 0 0 = -128; put 0 1 -129 = 1; at 0 1 = 127; at 0 0 = -128",
            "tape 1 2 1 = 1; put 1 0 32768 = 1; at 1 0 = -32768; put 1 0 65537 = 1; at 1 0 = 1; tape 2 3 1 = 1; put 2 0 2147483648 = 1; at 2 0 = -2147483648; put 2 0 4294967295 = 1; at 2 0 = -1; tape 3 4 1 = 1; put 3 0 -9223372036854775808 = 1; at 3 0 = -9223372036854775808; count 3 = 5");
        run("32 at", "at -1 0 = IAE; at 6 0 = IAE; at 0 0 = ISE; image 0 = 0; at 0 0 = ISE; tape 0 3 2 = 2; at 0 0 = 0; at 0 2 = ISE; at 0 -1 = ISE; at 0 1 = 0; count 3 = 0");
        run("33 copy", "copy -1 0 0 0 0 = -1; copy 0 0 6 0 0 = -1; copy 6 0 0 0 0 = -1; copy 0 0 1 0 0 = -11; tape 0 3 5 = 5; copy 0 0 1 0 0 = -11; copy 1 0 0 0 0 = -11; image 1 = 0; copy 0 0 1 0 0 = -12; copy 1 0 0 0 0 = -12; copy 1 0 1 0 0 = -12; tape 1 4 5 = 5",
            "copy 0 0 1 0 0 = -12; tape 1 3 3 = 3; put 0 0 1 = 1; put 0 1 2 = 1; put 0 2 3 = 1; put 0 3 4 = 1; put 0 4 5 = 1; copy 0 2 1 0 3 = 3; at 1 0 = 3; at 1 2 = 5; copy 0 0 0 1 4 = 4; at 0 0 = 1; at 0 1 = 1; at 0 4 = 4; copy 0 1 0 0 4 = 4; at 0 0 = 1; at 0 3 = 4; at 0 4 = 4",
            "copy 0 0 1 0 4 = -13; copy 0 3 1 0 3 = -13; copy 0 0 1 1 3 = -13; copy 0 -1 1 0 1 = -13; copy 0 0 1 -1 1 = -13; copy 0 0 1 0 -1 = -13; copy 0 5 1 3 0 = 0; copy 0 6 1 0 0 = -13; copy 0 0 1 4 0 = -13; copy 0 2147483647 1 0 1 = -13; copy 0 0 1 2147483647 2147483647 = -13; count 3 = 17");
    }

    private static void images() {
        String head = "rate 0 1 2 = 0; program = 0; act 0 0 0 0 0 = 1; act 0 3 1 0 0 = 2; act 0 8 1 0 0 = 3; act 0 11 2 1 0 = 4; act 0 10 2 5 0 = 5; line 7 = 1;";
        run("26 image", head, "image -1 = -1; image 6 = -1; image 0 = 1; program = 1; image 1 = 2; tape 0 1 1 = 1; image 0 = 2; clear 0 = 5");
        run("27 back", head, "image 0 = 1; run 0 = 5; account 5 = 3; count 2 = 1; carried 0 0 = 1; carried 0 1 = 2; image 1 = 1; run 0 = 5; account 5 = 7; carried 0 0 = 0; count 2 = 2; back 1 = 1; account 5 = 3; carried 0 0 = 1; carried 0 1 = 2; count 2 = 1; failed = -2; slot 1 0 = 4",
            "back 0 = 0; account 5 = 0; carried 0 0 = 0; carried 0 1 = 1; count 2 = 0; back 1 = 1; account 5 = 3; back -1 = -1; back 6 = -1; back 5 = -11; tape 5 3 1 = 1; back 5 = -12; count 3 = 2");
        run("27 back, of four programs", "program = 0; program = 1; program = 2; program = 3; image 5 = 4; back 5 = 0; carried 3 1 = 1");
        run("27 back, programs made since", head, "image 0 = 1; run 0 = 5; program = 1; act 1 0 0 0 0 = 1; act 1 3 0 0 0 = 2; act 1 8 0 0 0 = 3; run 1 = 3; carried 1 0 = 1; carried 1 1 = 2; image 1 = 2; back 0 = 0; carried 1 0 = 0; carried 1 1 = 1; back 1 = 1; carried 1 0 = 1; carried 1 1 = 2; carried 0 1 = 2",
            "begin = 0; back 1 = -3; account 5 = 0; program = 0; back 1 = -3; count 3 = 0; program = 1; back 1 = 1; account 5 = 3; carried 1 1 = 2; count 2 = 1");
        run("28 toss", head, "toss -1 = -1; toss 6 = -1; toss 0 = -11; tape 0 2 3 = 3; toss 0 = -12; image 0 = 1; toss 0 = -15; run 0 = 5; image 1 = 1; toss 1 = 1; back 0 = 0; years 0 3 = 3; toss 0 = -15; image 0 = 1; toss 0 = 3; toss 0 = 3; count 2 = 3; count 3 = 4; begin = 0; toss 0 = 3; count 3 = 0; clear 0 = 5; toss 0 = -11");
    }

    private static void counts() {
        run("34 count", "count -1 = -1; count 4 = -1; count 9 = -1; count 10 = -1; program = 0; count 10 = 0; count 11 = -1; program = 1; program = 2; program = 3; count 13 = 0; count 14 = -1; count 19 = -1; count 20 = 2; count 23 = 2; count 24 = -1",
            "act 2 8 0 0 0 = 1; count 12 = 1; count 1 = 4; line 4 = 1; count 0 = 1; weight 3 9 = 3; count 23 = 3; count 2147483647 = -1; count -2147483648 = -1; clear 9 = -1; count 3 = 0; toss 0 = -11; at 0 0 = ISE; count 3 = 1");
    }
}
