import java.lang.reflect.Constructor;
import java.lang.reflect.Field;
import java.lang.reflect.Method;
import java.lang.reflect.Modifier;
import java.nio.file.Files;
import java.nio.file.Path;
import java.util.Set;
import java.util.TreeSet;
import java.util.regex.Matcher;
import java.util.regex.Pattern;

/** The public face, and those rules of LANGUAGE.md that can be seen from the text alone. */
public final class LanguageTest {
    private static final Set<String> FACE = Set.of(
        "source(int,int)", "set(int,int,int)", "miss(int)", "copy(int,int,int,int,int)", "size(int)", "told(int,int)",
        "rule(int,boolean)", "input(int,int)", "turn(int,int,int)", "become(int,int,boolean)", "forget(int)", "of(int,int)",
        "trace(int,int,int)", "make(int)", "anew(int)", "outcome(int)", "part(int)", "ring(int)", "worked(int)", "looked()",
        "stale(int,int)", "count(int)", "found(int)");

    private static final String BARRED = "\\b(throw|throws|try|catch|finally|synchronized|assert|volatile|protected|native"
        + "|Object|System\\.(?!arraycopy)\\w+|Arrays\\.(?!copyOf\\b|copyOfRange\\b|fill\\b)\\w+|Math\\.\\w*Exact"
        + "|hashCode|toString|equals|Random|Thread|double|float)\\b|->|::|\\[\\]\\s*\\[\\]\\s*\\[\\]";

    public static void main(String[] args) throws Exception {
        face();
        constants();
        text(Files.readString(Path.of("src/main/java/RemakeShelf.java")));
        Rows.end();
    }

    private static void face() {
        Set<String> open = new TreeSet<>();
        Set<String> names = new TreeSet<>();
        for (Method method : RemakeShelf.class.getDeclaredMethods()) {
            if (!Modifier.isPrivate(method.getModifiers())) {
                StringBuilder types = new StringBuilder();
                for (Class<?> type : method.getParameterTypes()) {
                    types.append(types.length() == 0 ? "" : ",").append(type.getName());
                }
                open.add(method.getName() + "(" + types + ")");
                names.add(method.getName());
                boolean plain = method.getModifiers() == Modifier.PUBLIC && method.getReturnType() == int.class;
                Rows.due(method + " is public and answers an int", plain ? 1 : 0, 1);
            }
        }
        Rows.due("the methods are those of the face " + open, open.equals(FACE) ? 1 : 0, 1);
        for (Class<?> inside : RemakeShelf.class.getDeclaredClasses()) {
            Rows.due(inside + " is static", Modifier.isStatic(inside.getModifiers()) ? 1 : 0, 1);
            Rows.due(inside + " is not public", Modifier.isPublic(inside.getModifiers()) ? 1 : 0, 0);
            for (Method method : inside.getDeclaredMethods()) {
                Rows.due(method + " has no name of the face", names.contains(method.getName()) ? 1 : 0, 0);
            }
        }
        for (Method method : RemakeShelf.class.getDeclaredMethods()) {
            boolean hidden = Modifier.isPrivate(method.getModifiers());
            Rows.due(method + " has no name of the face", hidden && names.contains(method.getName()) ? 1 : 0, 0);
        }
        Constructor<?>[] constructors = RemakeShelf.class.getDeclaredConstructors();
        Rows.due("constructors", constructors.length, 1);
        Rows.due("parameters of the constructor", constructors[0].getParameterCount(), 0);
        Rows.due("the class is public and final", RemakeShelf.class.getModifiers(), Modifier.PUBLIC | Modifier.FINAL);
    }

    private static void constants() {
        Rows.due("NUMBER", RemakeShelf.NUMBER, -1);
        Rows.due("FULL", RemakeShelf.FULL, -2);
        Rows.due("FOUND", RemakeShelf.FOUND, -3);
        Set<String> open = new TreeSet<>();
        for (Field field : RemakeShelf.class.getDeclaredFields()) {
            int modifiers = field.getModifiers();
            if (!Modifier.isPrivate(modifiers)) {
                open.add(field.getName());
            }
            Rows.due(field + " is final", Modifier.isFinal(modifiers) ? 1 : 0, 1);
        }
        Rows.due("the open fields are the constants " + open, open.equals(Set.of("NUMBER", "FULL", "FOUND")) ? 1 : 0, 1);
        for (Class<?> inside : RemakeShelf.class.getDeclaredClasses()) {
            for (Field field : inside.getDeclaredFields()) {
                boolean loose = Modifier.isStatic(field.getModifiers()) && !Modifier.isFinal(field.getModifiers());
                Rows.due(field + " is no loose static", loose ? 1 : 0, 0);
            }
        }
    }

    private static void text(String whole) {
        String code = whole.replaceAll("(?s)/\\*.*?\\*/", " ").replaceAll("//[^\n]*", " ");
        Matcher barred = Pattern.compile(BARRED).matcher(code);
        while (barred.find()) {
            Rows.tell("LANGUAGE.md", "the text has '" + barred.group() + "'");
        }
        Matcher imported = Pattern.compile("import ([^;]*);").matcher(code);
        while (imported.find()) {
            Rows.due("import " + imported.group(1), imported.group(1).equals("java.util.Arrays") ? 1 : 0, 1);
        }
        Rows.due("there is no package line", code.contains("package ") ? 1 : 0, 0);
    }
}
