import java.lang.reflect.Method;
import java.lang.reflect.Modifier;
import java.nio.file.Files;
import java.nio.file.Path;
import java.util.regex.Matcher;
import java.util.regex.Pattern;

/** That the examples of README.md answer what stands behind each call, and that it names every call. */
public final class ReadmeTest {
    private static final Pattern EXAMPLE = Pattern.compile("```java\n(.*?)```", Pattern.DOTALL);
    private static final Pattern CALL = Pattern.compile("shelf\\.(\\w+\\([^;]*\\)); +// (-?\\d+|[A-Z]+): .+");
    private static final String NEW_OBJECT = "RemakeShelf shelf = new RemakeShelf();";

    public static void main(String[] args) throws Exception {
        String readme = Files.readString(Path.of("README.md"));
        int examples = 0;
        for (Matcher example = EXAMPLE.matcher(readme); example.find();) {
            examples++;
            Rows.run("README.md, example " + examples, rowsOf(example.group(1)));
        }
        Rows.due("there are examples in README.md", examples > 0 ? 1 : 0, 1);
        Rows.due("README.md tells how to run the tests", readme.contains("```sh\n.ci/run\n```") ? 1 : 0, 1);
        namesEveryCall(readme);
        Rows.end();
    }

    private static String rowsOf(String example) {
        StringBuilder rows = new StringBuilder();
        String[] lines = example.split("\n");
        Rows.due("an example makes its object first: " + lines[0], lines[0].equals(NEW_OBJECT) ? 1 : 0, 1);
        for (int i = 1; i < lines.length; i++) {
            Matcher call = CALL.matcher(lines[i]);
            if (call.matches()) {
                rows.append(call.group(1)).append(" = ").append(call.group(2)).append('\n');
            } else {
                Rows.tell("README.md", "no call with its answer: " + lines[i]);
            }
        }
        return rows.toString();
    }

    private static void namesEveryCall(String readme) {
        for (Method method : RemakeShelf.class.getDeclaredMethods()) {
            if (Modifier.isPublic(method.getModifiers())) {
                Rows.due("README.md names " + method.getName(), readme.contains("`" + method.getName() + "`") ? 1 : 0, 1);
            }
        }
    }
}
