import java.io.IOException;
import java.nio.file.Files;
import java.nio.file.Path;
import java.util.ArrayList;
import java.util.List;

/** What the tests of boundary cases share: each stands under the words of the document that name it. */
final class Bounds {
    private static final Path DOCUMENT = Path.of("../shared/DOC.md");
    private static final List<String> QUOTES = new ArrayList<>();

    private Bounds() {
    }

    static void test(String quote, String... texts) {
        QUOTES.add(quote);
        Script.run(quote, texts);
    }

    /** Acts that make SLOT s, which is 0, a number of up to 2^40 either way, by way of SLOT w; see bigRates(). */
    static String big(int s, int w, long number) {
        long size = Math.abs(number);
        long high = size / 1100000;
        long low = size % 1100000;
        if (high > 1000000 || low > 1000000) {
            throw new AssertionError(number + " can't be made so");
        }
        String off = number < 0 ? "1" : "0";
        return ("CAP w 1 " + high + "; RATE w w 6; RATE w w 7; ADD s w " + off + "; PART w; CAP w 1 " + low + "; ADD s w " + off + ";")
            .replace(" w", " " + w).replace(" s", " " + s);
    }

    static String bigRates() {
        return "rate 6 1100 1; rate 7 1000 1;";
    }

    /** Tells which words of the Terms and the promises no test stands under; new words are no fault of the class. */
    static void tellUnquoted() throws IOException {
        if (!Files.exists(DOCUMENT)) {
            return;
        }
        String text = Files.readString(DOCUMENT).replaceAll("(?m)^#.*$", "").replaceAll("\\s+", " ");
        int from = text.indexOf("AMOUNTS are");
        int to = text.indexOf("How the state is held");
        text = from >= 0 && to > from ? text.substring(from, to) : text;
        for (String quote : QUOTES) {
            if (!text.contains(quote) && !Files.readString(DOCUMENT).replaceAll("\\s+", " ").contains(quote)) {
                System.out.println("the document doesn't say: " + quote);
            }
        }
        char[] left = text.toCharArray();
        for (String quote : QUOTES) {
            for (int at = text.indexOf(quote); at >= 0; at = text.indexOf(quote, at + 1)) {
                java.util.Arrays.fill(left, at, at + quote.length(), '|');
            }
        }
        for (String rest : new String(left).split("\\|+")) {
            String words = rest.replaceAll("`[^`]*`", "").replaceAll("==== [IV]+\\.", "");
            if (words.matches(".*[A-Za-z].*")) {
                System.out.println("no test of a boundary stands under: " + words.trim());
            }
        }
    }
}
