import java.lang.reflect.Method;
import java.util.ArrayList;
import java.util.HashMap;
import java.util.List;
import java.util.Map;
import java.util.function.IntFunction;

/** Runs rows such as "set(0, 1, 5) = 1" on a new object each run, and tells those that are wrong. */
final class Rows {
    static final int MOST_CALLS = 512;

    private static final Map<String, Method> METHODS = new HashMap<>();

    static {
        for (Method method : RemakeShelf.class.getDeclaredMethods()) {
            METHODS.put(method.getName() + "/" + method.getParameterCount(), method);
        }
    }

    private static int wrong;
    private static int calls;

    private Rows() {
    }

    static void run(String title, String rows) {
        RemakeShelf shelf = new RemakeShelf();
        List<String> all = split(rows);
        for (String row : all) {
            int equals = row.lastIndexOf('=');
            String call = row.substring(0, equals).strip();
            due(title + ": " + call, ask(shelf, call), number(row.substring(equals + 1)));
        }
        if (all.size() > MOST_CALLS) {
            tell(title, "the run has " + all.size() + " calls, and " + MOST_CALLS + " are promised");
        }
    }

    /** The rows one by one, without the comments between them. */
    static List<String> split(String rows) {
        List<String> all = new ArrayList<>();
        for (String line : rows.split("\n")) {
            if (line.isBlank() || line.strip().startsWith("//")) {
                continue;
            }
            for (String row : line.split(";")) {
                all.add(row.strip());
            }
        }
        return all;
    }

    /** The rows of all numbers from one up to another that is left out, a line each. */
    static String each(int from, int to, IntFunction<String> rows) {
        StringBuilder all = new StringBuilder();
        for (int i = from; i < to; i++) {
            all.append(rows.apply(i)).append('\n');
        }
        return all.toString();
    }

    /** A source with these ints. */
    static String row(int s, int... ints) {
        String made = "source(" + s + ", " + ints.length + ") = " + ints.length + "\n";
        return made + each(0, ints.length, i -> "set(" + s + ", " + i + ", " + ints[i] + ") = 1");
    }

    /** The next rule, with these inputs. */
    static String rule(int r, int kind, boolean strict, int... names) {
        String made = "rule(" + kind + ", " + strict + ") = " + r + "\n";
        return made + each(0, names.length, i -> "input(" + r + ", " + names[i] + ") = " + (i + 1));
    }

    /** That the latest outcome is just these ints. */
    static String parts(int... ints) {
        String ends = "outcome(0) = " + ints.length + "; part(-1) = 0; part(" + ints.length + ") = 0\n";
        return ends + each(0, ints.length, i -> "part(" + i + ") = " + ints[i]);
    }

    /** That the latest trace of a rule has just these reads. */
    static String reads(int r, int... names) {
        String ends = "trace(" + r + ", 0, -1) = " + names.length + "; trace(" + r + ", 0, " + names.length + ") = -1\n";
        return ends + each(0, names.length, i -> "trace(" + r + ", 0, " + i + ") = " + names[i]);
    }

    /** That just these rules were worked in the latest make(), in this order. */
    static String workedJust(int... rules) {
        return each(0, rules.length, i -> "worked(" + i + ") = " + rules[i]) + "worked(" + rules.length + ") = -1\n";
    }

    /** That just these rules are the ring of the latest outcome. */
    static String ringOf(int... rules) {
        return each(0, rules.length, i -> "ring(" + i + ") = " + rules[i]) + "ring(" + rules.length + ") = -1; ring(-1) = -1\n";
    }

    static int ask(RemakeShelf shelf, String call) {
        int open = call.indexOf('(');
        String inner = call.substring(open + 1, call.length() - 1).strip();
        String[] words = inner.isEmpty() ? new String[0] : inner.split(",");
        Method method = METHODS.get(call.substring(0, open) + "/" + words.length);
        if (method == null) {
            throw new IllegalArgumentException("no call " + call);
        }
        Object[] arguments = new Object[words.length];
        for (int i = 0; i < words.length; i++) {
            boolean flag = method.getParameterTypes()[i] == boolean.class;
            arguments[i] = flag ? (Object) Boolean.valueOf(words[i].strip()) : (Object) number(words[i]);
        }
        try {
            return (Integer) method.invoke(shelf, arguments);
        } catch (ReflectiveOperationException thrown) {
            throw new IllegalStateException(call + " threw", thrown);
        }
    }

    static void due(String what, long got, long want) {
        calls++;
        if (got != want) {
            tell(what, "is " + got + ", due is " + want);
        }
    }

    /** As due(), for so many answers that no text is to be made of those that are right. */
    static void right() {
        calls++;
    }

    static void tell(String title, String fault) {
        wrong++;
        System.out.println(title + ": " + fault);
    }

    static void end() {
        System.out.println(wrong == 0 ? calls + " answers are as due" : wrong + " answers are not as due");
        if (wrong != 0) {
            System.exit(1);
        }
    }

    private static int number(String word) {
        switch (word.strip()) {
            case "NUMBER": return RemakeShelf.NUMBER;
            case "FULL": return RemakeShelf.FULL;
            case "FOUND": return RemakeShelf.FOUND;
            case "MAX": return Integer.MAX_VALUE;
            case "MIN": return Integer.MIN_VALUE;
            default: return Integer.parseInt(word.strip());
        }
    }
}
