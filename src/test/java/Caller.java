/** Calls PennyJudge by a method's name and answers with a text, as Oracle does. */
final class Caller {
    private Caller() {
    }

    static String call(PennyJudge p, String name, long... a) {
        try {
            return "" + answer(p, name, a);
        } catch (RuntimeException e) {
            return "throws." + e.getClass().getSimpleName();
        }
    }

    private static long answer(PennyJudge p, String name, long[] a) {
        switch (name) {
            case "begin":
                return p.begin();
            case "rate":
                return p.rate((int) a[0], (int) a[1], (int) a[2]);
            case "line":
                return p.line((int) a[0]);
            case "bare":
                return p.bare();
            case "weight":
                return p.weight((int) a[0], (int) a[1]);
            case "program":
                return p.program();
            case "act":
                return p.act((int) a[0], (int) a[1], (int) a[2], (int) a[3], (int) a[4]);
            case "set":
                return p.set((int) a[0], (int) a[1], (int) a[2], (int) a[3]);
            case "told":
                return p.told((int) a[0], (int) a[1], (int) a[2]);
            case "run":
                return p.run((int) a[0]);
            case "years":
                return p.years((int) a[0], (int) a[1]);
            case "failed":
                return p.failed();
            case "account":
                return p.account((int) a[0]);
            case "slot":
                return p.slot((int) a[0], (int) a[1]);
            case "part":
                return p.part((int) a[0]);
            case "got":
                return p.got((int) a[0]);
            case "carried":
                return p.carried((int) a[0], (int) a[1]);
            case "least":
                return p.least((int) a[0], (int) a[1], (int) a[2], (int) a[3], (int) a[4]);
            case "order":
                return p.order((int) a[0]);
            case "drift":
                return p.drift((int) a[0], (int) a[1], (int) a[2], (int) a[3], (int) a[4]);
            case "mend":
                return p.mend((int) a[0], (int) a[1], (int) a[2], (int) a[3]);
            case "same":
                return p.same((int) a[0], (int) a[1]);
            case "rounded":
                return p.rounded(a[0], (int) a[1], (int) a[2], (int) a[3]);
            default:
                return tapeAnswer(p, name, a);
        }
    }

    private static long tapeAnswer(PennyJudge p, String name, long[] a) {
        switch (name) {
            case "tape":
                return p.tape((int) a[0], (int) a[1], (int) a[2]);
            case "image":
                return p.image((int) a[0]);
            case "back":
                return p.back((int) a[0]);
            case "toss":
                return p.toss((int) a[0]);
            case "load":
                return p.load((int) a[0], (int) a[1], (int) a[2]);
            case "clear":
                return p.clear((int) a[0]);
            case "put":
                return p.put((int) a[0], (int) a[1], a[2]);
            case "at":
                return p.at((int) a[0], (int) a[1]);
            case "copy":
                return p.copy((int) a[0], (int) a[1], (int) a[2], (int) a[3], (int) a[4]);
            case "count":
                return p.count((int) a[0]);
            default:
                throw new AssertionError(name);
        }
    }
}
