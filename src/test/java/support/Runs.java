import java.lang.reflect.InvocationTargetException;
import java.lang.reflect.Method;
import java.util.ArrayList;
import java.util.HashMap;
import java.util.List;
import java.util.Map;
import java.util.regex.Matcher;
import java.util.regex.Pattern;

/**
 * Runs told row by row, so that a test can be read beside the document's sentence:
 * <pre>
 *   text h1 0 0;              feeds the letters
 *   rock h1 0 0; = 0          feeds them, then rock()
 *   day(3) = 3                a call and the answer that is due (none told: any)
 *   20 x calendar(0, 1)       a call many times
 *   told(7..9) = 3 0 1        a call for each argument from .. to, with the answer of each (one told: of all)
 * </pre>
 * Numbers may be NONE, UNKNOWN, OUTSIDE, NOT, FULL, FAR (the largest int), DEEP (the least).
 */
final class Runs {
    private static final int MOST_CALLS = 512;
    private static final Pattern CALL = Pattern.compile("(?:(\\d+) x )?(\\w+)\\(([^)]*)\\)(?: = (.*))?");
    private static final Map<String, Integer> NAMES = Map.of("NONE", OneADay.NONE, "UNKNOWN", OneADay.UNKNOWN,
        "OUTSIDE", OneADay.OUTSIDE, "NOT", OneADay.NOT, "FULL", OneADay.FULL,
        "FAR", Integer.MAX_VALUE, "DEEP", Integer.MIN_VALUE);
    private static final Map<String, Method> CALLS = new HashMap<>();

    static {
        for (Method m : OneADay.class.getDeclaredMethods()) CALLS.put(m.getName(), m);
    }

    private final Check check;
    private String name = "";
    private OneADay x = new OneADay();
    private int calls;

    Runs(Check check) {
        this.check = check;
    }

    /** A run on a new object, under the sentence that it tests. */
    void run(String sentence, String rows) {
        name = sentence;
        x = new OneADay();
        calls = 0;
        for (String row : rows.split("\n")) if (!row.isBlank()) row(row.strip());
    }

    /** The answers of the rows on a given object, whatever is due. */
    static List<Integer> answers(OneADay x, String rows) {
        Runs runs = new Runs(new Check());
        runs.x = x;
        List<Integer> all = new ArrayList<>();
        for (String row : rows.split("\n")) if (!row.isBlank()) all.addAll(runs.row(row.strip()));
        return all;
    }

    static int number(String word) {
        Integer named = NAMES.get(word);
        return named != null ? named : Integer.parseInt(word);
    }

    private List<Integer> row(String row) {
        if (row.startsWith("text")) return feed(row.substring(Math.min(5, row.length())));
        if (row.startsWith("rock ")) {
            int end = row.indexOf(" = ");
            List<Integer> all = feed(row.substring(5, end < 0 ? row.length() : end));
            all.addAll(row("rock()" + (end < 0 ? "" : row.substring(end))));
            return all;
        }
        Matcher m = CALL.matcher(row);
        if (!m.matches()) throw new IllegalArgumentException(row);
        List<Integer> all = new ArrayList<>();
        int many = m.group(1) == null ? 1 : Integer.parseInt(m.group(1));
        for (int i = 0; i < many; i++) all.addAll(each(m.group(2), m.group(3), m.group(4)));
        return all;
    }

    private List<Integer> feed(String letters) {
        List<Integer> all = new ArrayList<>();
        for (char letter : letters.toCharArray()) {
            count();
            all.add(x.feed(letter));
        }
        return all;
    }

    private List<Integer> each(String call, String args, String due) {
        Matcher range = Pattern.compile("(-?\\d+)\\.\\.(-?\\d+)").matcher(args);
        String[] wanted = due == null ? new String[0] : due.trim().split("\\s+");
        List<Integer> all = new ArrayList<>();
        if (!range.find()) {
            all.add(one(call, args, wanted, 0));
            return all;
        }
        int from = Integer.parseInt(range.group(1)), to = Integer.parseInt(range.group(2));
        if (wanted.length > 1 && wanted.length != to - from + 1) throw new IllegalArgumentException(call + " " + due);
        for (int i = from; i <= to; i++) all.add(one(call, range.replaceFirst(String.valueOf(i)), wanted, i - from));
        return all;
    }

    private int one(String call, String args, String[] wanted, int at) {
        Method method = CALLS.get(call);
        if (method == null) throw new IllegalArgumentException(call);
        Object[] given = args.isBlank() ? new Object[0] : new Object[args.split(",").length];
        for (int i = 0; i < given.length; i++) given[i] = number(args.split(",")[i].trim());
        count();
        int got;
        try {
            got = (Integer) method.invoke(x, given);
        } catch (InvocationTargetException | IllegalAccessException e) {
            throw new IllegalStateException(name + ": " + call + "(" + args + ") threw", e.getCause());
        }
        String want = wanted.length == 0 ? null : wanted.length == 1 ? wanted[0] : wanted[at];
        if (want != null) check.due(name + ": " + call + "(" + args + ")", got, number(want));
        return got;
    }

    /** Beyond 512 calls an object may answer what it likes: a test that goes there tests nothing. */
    private void count() {
        if (++calls > MOST_CALLS) throw new IllegalStateException("over 512 calls: " + name);
    }
}
