import java.io.File;
import java.io.IOException;
import java.lang.reflect.Field;
import java.lang.reflect.Method;
import java.lang.reflect.Modifier;
import java.nio.file.Files;
import java.nio.file.Path;
import java.util.TreeSet;
import java.util.regex.Matcher;
import java.util.regex.Pattern;

/** README.md's calls answer as it says, and it leaves out no call, constant or test. */
public final class ReadmeTest {
    private static final Pattern CALL = Pattern.compile("judge\\.(\\w+)\\(([^)]*)\\); +// ([^:]+)(: .*)?");
    private static final Pattern BLOCK = Pattern.compile("(?s)```java\\n(.*?)```");
    private static final String NEW = "PennyJudge judge = new PennyJudge();";
    private static int wrong = 0;
    private static int calls = 0;
    private static final TreeSet<String> CALLED = new TreeSet<>();

    private ReadmeTest() {
    }

    private static void tell(String fault) {
        wrong++;
        System.out.println(fault);
    }

    private static String due(String word) throws ReflectiveOperationException {
        if (word.startsWith("throws ")) {
            return word.replace(' ', '.');
        }
        return word.matches("[A-Z]+") ? "" + PennyJudge.class.getField(word).getInt(null) : word;
    }

    private static void makeCall(PennyJudge judge, String line) throws ReflectiveOperationException {
        Matcher call = CALL.matcher(line);
        if (judge == null || !call.matches()) {
            tell("README.md: no call with its answer: " + line);
            return;
        }
        String[] words = call.group(2).isEmpty() ? new String[0] : call.group(2).split(", ");
        long[] arguments = new long[words.length];
        for (int i = 0; i < words.length; i++) {
            arguments[i] = Long.parseLong(words[i].replace("L", ""));
        }
        String got = Caller.call(judge, call.group(1), arguments);
        calls++;
        CALLED.add(call.group(1));
        if (!got.equals(due(call.group(3)))) {
            tell("README.md: " + line + " answered " + got);
        }
    }

    private static void makeCalls(String text) throws ReflectiveOperationException {
        Matcher block = BLOCK.matcher(text);
        while (block.find()) {
            PennyJudge judge = null;
            for (String line : block.group(1).split("\n")) {
                if (line.equals(NEW)) {
                    judge = new PennyJudge();
                } else {
                    makeCall(judge, line);
                }
            }
        }
    }

    private static void leavesNothingOut(String text) {
        for (Method m : PennyJudge.class.getDeclaredMethods()) {
            if (Modifier.isPublic(m.getModifiers()) && !CALLED.contains(m.getName())) {
                tell("README.md has no call of " + m.getName());
            }
        }
        for (Field f : PennyJudge.class.getFields()) {
            if (!text.contains("// " + f.getName())) {
                tell("README.md has no answer " + f.getName());
            }
        }
        File[] tests = new File("src/test/java").listFiles((where, name) -> name.endsWith("Test.java"));
        for (File test : tests == null ? new File[0] : tests) {
            if (!text.contains("- `" + test.getName().replace(".java", "") + "`:")) {
                tell("README.md doesn't tell of " + test.getName());
            }
        }
    }

    public static void main(String[] args) throws IOException, ReflectiveOperationException {
        String text = Files.readString(Path.of("README.md"));
        makeCalls(text);
        leavesNothingOut(text);
        System.out.println(calls + " calls of README.md, " + wrong + " faults");
        if (wrong > 0) {
            System.exit(1);
        }
    }
}
