import java.util.ArrayList;
import java.util.List;

/**
 * A run of calls on one new object, told as rows such as "add(-1) = 0": the call and what it is to
 * answer. IAE, ISE and NSEE stand for the exceptions; a row without an answer must just not throw.
 * Behind a refused call all that can be seen must be as it was.
 */
final class Script {
    /** The document promises nothing of later calls. */
    private static final int MOST_CALLS = 512;
    /** Behind so many calls there are enough left to look at all METHODS. */
    private static final int MOST_BEFORE_REFUSED = 300;

    private final Checks checks;
    private final String sentence;
    private final CodeShrinker program = new CodeShrinker();
    private final List<String> calls = new ArrayList<>();

    /** The sentence is the document's, behind the promise that it belongs to. */
    Script(Checks checks, String sentence) {
        this.checks = checks;
        this.sentence = sentence;
    }

    Script rows(String... rows) {
        for (String row : rows) {
            one(row, false);
        }
        return this;
    }

    /** Rows that just ask: behind each of them, too, all that can be seen must be as it was. */
    Script asks(String... rows) {
        for (String row : rows) {
            one(row, true);
        }
        return this;
    }

    Script row(String form, Object... parts) {
        one(String.format(form, parts), false);
        return this;
    }

    int calls() {
        return calls.size();
    }

    private void one(String row, boolean justAsks) {
        int split = row.indexOf(" = ");
        String call = split < 0 ? row : row.substring(0, split);
        String due = split < 0 ? "" : exception(row.substring(split + 3));
        String got = answer(program, call);
        if (!due.isEmpty() || got.endsWith("Exception")) {
            checks.compare(sentence + " | " + call, due, got);
        }
        if ((justAsks || due.endsWith("Exception")) && calls.size() <= MOST_BEFORE_REFUSED) {
            checks.compare(sentence + " | what is seen behind " + call, seen(calls, ""), seen(calls, call));
        }
        calls.add(call);
        if (calls.size() > MOST_CALLS) {
            throw new IllegalStateException(sentence + ": a script of more than 512 calls");
        }
    }

    private static String exception(String due) {
        switch (due) {
            case "IAE":
                return "IllegalArgumentException";
            case "ISE":
                return "IllegalStateException";
            case "NSEE":
                return "NoSuchElementException";
            default:
                return due;
        }
    }

    /** New objects do all the calls, so that looking costs the script's own object none. */
    private static String seen(List<String> calls, String last) {
        List<String> all = new ArrayList<>(calls);
        if (!last.isEmpty()) {
            all.add(last);
        }
        List<String> looks = looks(after(all));
        CodeShrinker x = after(all);
        StringBuilder text = new StringBuilder();
        for (int i = 0; i < looks.size() && i < MOST_CALLS - calls.size() - 1; i++) {
            text.append(looks.get(i)).append(" = ").append(answer(x, looks.get(i))).append("; ");
        }
        return text.toString();
    }

    private static CodeShrinker after(List<String> calls) {
        CodeShrinker x = new CodeShrinker();
        for (String call : calls) {
            answer(x, call);
        }
        return x;
    }

    /** The most telling calls first, for an object has but so many. */
    private static List<String> looks(CodeShrinker x) {
        List<String> looks = new ArrayList<>();
        List<String> late = new ArrayList<>();
        for (int what = 0; what < 18; what++) {
            looks.add("count(" + what + ")");
        }
        int methods = x.count(1);
        for (int m = 0; m < methods; m++) {
            looks.add("run(" + x.told(m, 0) + ", " + x.told(m, 1) + ", " + x.told(m, 2) + ")");
            for (int what = 3; what < 8; what++) {
                looks.add("told(" + m + ", " + what + ")");
            }
            int parts = 4 * x.told(m, 3);
            for (int k = 0; k < parts; k++) {
                late.add("inside(" + m + ", " + k / 4 + ", " + k % 4 + ")");
            }
        }
        looks.addAll(late);
        return looks;
    }

    static String answer(CodeShrinker x, String call) {
        String name = call.substring(0, call.indexOf('('));
        String inner = call.substring(call.indexOf('(') + 1, call.length() - 1);
        String[] parts = inner.isEmpty() ? new String[0] : inner.split(", ");
        boolean keeps = parts.length == 2 && parts[1].equals("true");
        int[] n = new int[parts.length];
        for (int i = 0; i < n.length; i++) {
            n[i] = name.equals("keep") && i == 1 ? 0 : Integer.parseInt(parts[i]);
        }
        try {
            return done(x, name, n, keeps);
        } catch (RuntimeException e) {
            return e.getClass().getSimpleName();
        }
    }

    private static String done(CodeShrinker x, String name, int[] n, boolean keeps) {
        switch (name) {
            case "add":
                return "" + x.add(n[0]);
            case "method":
                return "" + x.method(n[0], n[1], n[2]);
            case "item":
                return "" + x.item(n[0], n[1], n[2], n[3], n[4]);
            case "keep":
                x.keep(n[0], keeps);
                return "";
            case "run":
                return "" + x.run(n[0], n[1], n[2]);
            case "shrink":
                return "" + x.shrink();
            case "rename":
                return "" + x.rename();
            case "told":
                return "" + x.told(n[0], n[1]);
            case "inside":
                return "" + x.inside(n[0], n[1], n[2]);
            case "trace":
                return "" + x.trace(n[0], n[1], n[2]);
            case "count":
                return "" + x.count(n[0]);
            default:
                throw new AssertionError("no such call: " + name);
        }
    }
}
