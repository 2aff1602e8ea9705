import java.io.IOException;
import java.lang.reflect.Constructor;
import java.lang.reflect.Field;
import java.lang.reflect.Method;
import java.lang.reflect.Modifier;
import java.nio.file.Files;
import java.nio.file.Path;
import java.util.Arrays;
import java.util.List;
import java.util.TreeSet;

/** The face of the class, and the rules of LANGUAGE.md that a program can see. */
public final class FaceTest {
    private static final String METHODS = "begin():int rate(int,int,int):int line(int):int bare():int weight(int,int):int program():int "
        + "act(int,int,int,int,int):int set(int,int,int,int):int told(int,int,int):int run(int):int years(int,int):int failed():int "
        + "account(int):long slot(int,int):long part(int):long got(int):long carried(int,int):long least(int,int,int,int,int):int "
        + "order(int):int drift(int,int,int,int,int):int mend(int,int,int,int):int same(int,int):int rounded(long,int,int,int):long "
        + "tape(int,int,int):int image(int):int back(int):int toss(int):int load(int,int,int):int clear(int):int put(int,int,long):int "
        + "at(int,int):long copy(int,int,int,int,int):int count(int):int";
    private static final String CONSTANTS = "NONE=-1 FULL=-2 UNABLE=-3 WHOLE=-5 SPENT=-6 HOLDS=9999999 NOTHING=-11 CAST=-12 PLACE=-13 SIZE=-14 THROWN=-15";
    private static final String[] RULED_OUT = {"import ", "->", "::", "try ", "catch", "finally", "assert", "synchronized", "Exact(", "Math.floor(",
        "Math.ceil(", "Math.rint(", "Math.round(", "System.out", "hashCode", "toString", "static {", "BigInteger", "BigDecimal", "var ", "protected "};
    private static int wrong = 0;

    private static void due(String what, Object got, Object want) {
        if (!got.equals(want)) {
            wrong++;
            System.out.println(what + ": " + got + ", due is " + want);
        }
    }

    private static TreeSet<String> words(String text) {
        return new TreeSet<>(Arrays.asList(text.split(" ")));
    }

    private static String signature(Method m) {
        StringBuilder text = new StringBuilder(m.getName()).append('(');
        for (int i = 0; i < m.getParameterCount(); i++) {
            text.append(i == 0 ? "" : ",").append(m.getParameterTypes()[i].getSimpleName());
        }
        return text.append("):").append(m.getReturnType().getSimpleName()).toString();
    }

    private static void members() throws IllegalAccessException {
        Class<?> face = PennyJudge.class;
        due("public and final", Modifier.isPublic(face.getModifiers()) && Modifier.isFinal(face.getModifiers()), true);
        TreeSet<String> methods = new TreeSet<>();
        TreeSet<String> names = new TreeSet<>();
        for (Method m : face.getDeclaredMethods()) {
            if (Modifier.isPrivate(m.getModifiers()) || m.isSynthetic()) {
                continue;
            }
            methods.add(signature(m));
            names.add(m.getName());
        }
        due("the methods", methods, words(METHODS));
        TreeSet<String> constants = new TreeSet<>();
        for (Field f : face.getDeclaredFields()) {
            if (!Modifier.isPrivate(f.getModifiers())) {
                due(f.getName() + " is a public constant", f.getModifiers(), Modifier.PUBLIC | Modifier.STATIC | Modifier.FINAL);
                constants.add(f.getName() + "=" + f.get(null));
            }
        }
        due("the constants", constants, words(CONSTANTS));
        Constructor<?>[] constructors = face.getDeclaredConstructors();
        due("one public constructor without parameters", constructors.length == 1 && constructors[0].getParameterCount() == 0
            && Modifier.isPublic(constructors[0].getModifiers()), true);
        inside(face, names);
    }

    private static void inside(Class<?> face, TreeSet<String> names) {
        due("at most twelve classes", face.getDeclaredClasses().length <= 11, true);
        for (Method m : face.getDeclaredMethods()) {
            due(m.getName() + " is private and bears the name of a public one", Modifier.isPrivate(m.getModifiers()) && names.contains(m.getName()), false);
        }
        for (Class<?> inner : face.getDeclaredClasses()) {
            due(inner.getName() + " is static", Modifier.isStatic(inner.getModifiers()), true);
            for (Method m : inner.getDeclaredMethods()) {
                due(inner.getName() + "." + m.getName() + " bears the name of a public one", names.contains(m.getName()), false);
                due(inner.getName() + "." + m.getName() + " takes more than seven", m.getParameterCount() > 7, false);
            }
            due(inner.getName() + " has too many fields", inner.getDeclaredFields().length > 20, false);
        }
    }

    private static void throwsAsTold() {
        List<Class<?>> argument = List.of(IllegalArgumentException.class);
        List<Class<?>> both = List.of(IllegalArgumentException.class, IllegalStateException.class);
        List<String> throwing = List.of("account", "slot", "part", "got", "carried", "drift", "rounded");
        for (Method m : PennyJudge.class.getDeclaredMethods()) {
            List<Class<?>> told = m.getName().equals("at") ? both : throwing.contains(m.getName()) ? argument : List.of();
            due(m.getName() + " throws", List.of(m.getExceptionTypes()), told);
        }
    }

    private static void source() throws IOException {
        String text = Files.readString(Path.of("src/main/java/PennyJudge.java"));
        for (String word : RULED_OUT) {
            due("the source has " + word, text.contains(word), false);
        }
        due("the source has a sign beyond 127", text.chars().anyMatch(c -> c > 127), false);
    }

    public static void main(String[] args) throws Exception {
        members();
        throwsAsTold();
        source();
        System.out.println(wrong == 0 ? "the face is as due" : wrong + " faults of the face");
        if (wrong > 0) {
            System.exit(1);
        }
    }
}
