import java.lang.reflect.Method;

/** Runs rows such as "set(0, 1, 5) = 1" on a new object each run, and tells those that are wrong. */
final class Rows {
    private static int wrong;
    private static int calls;

    private Rows() {
    }

    static void run(String title, String rows) {
        RemakeShelf shelf = new RemakeShelf();
        int done = 0;
        for (String line : rows.split("\n")) {
            String row = line.strip();
            if (row.isEmpty() || row.startsWith("//")) {
                continue;
            }
            for (String one : row.split(";")) {
                runRow(title, shelf, one.strip());
                done++;
            }
        }
        if (done > 512) {
            tell(title, "the run has " + done + " calls, and 512 are promised");
        }
    }

    static void due(String what, long got, long want) {
        calls++;
        if (got != want) {
            tell(what, "is " + got + ", due is " + want);
        }
    }

    /** As due(), for so many answers that no text is to be made of those that are right. */
    static void right() {
        calls++;
    }

    static void tell(String title, String fault) {
        wrong++;
        System.out.println(title + ": " + fault);
    }

    static void end() {
        System.out.println(wrong == 0 ? calls + " answers are as due" : wrong + " answers are not as due");
        if (wrong != 0) {
            System.exit(1);
        }
    }

    private static void runRow(String title, RemakeShelf shelf, String row) {
        int equals = row.lastIndexOf('=');
        String call = row.substring(0, equals).strip();
        int open = call.indexOf('(');
        String inner = call.substring(open + 1, call.length() - 1).strip();
        String[] words = inner.isEmpty() ? new String[0] : inner.split(",");
        due(title + ": " + call, invoke(shelf, call.substring(0, open), words), number(row.substring(equals + 1)));
    }

    private static int invoke(RemakeShelf shelf, String name, String[] words) {
        for (Method method : RemakeShelf.class.getMethods()) {
            if (method.getName().equals(name) && method.getParameterCount() == words.length) {
                Object[] arguments = new Object[words.length];
                for (int i = 0; i < words.length; i++) {
                    boolean flag = method.getParameterTypes()[i] == boolean.class;
                    arguments[i] = flag ? (Object) Boolean.valueOf(words[i].strip()) : (Object) number(words[i]);
                }
                try {
                    return (Integer) method.invoke(shelf, arguments);
                } catch (ReflectiveOperationException thrown) {
                    throw new IllegalStateException(name + " threw", thrown);
                }
            }
        }
        throw new IllegalArgumentException("no call " + name);
    }

    private static int number(String word) {
        switch (word.strip()) {
            case "NUMBER": return RemakeShelf.NUMBER;
            case "FULL": return RemakeShelf.FULL;
            case "FOUND": return RemakeShelf.FOUND;
            case "MAX": return Integer.MAX_VALUE;
            case "MIN": return Integer.MIN_VALUE;
            default: return Integer.parseInt(word.strip());
        }
    }
}
