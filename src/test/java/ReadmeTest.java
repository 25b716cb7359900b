import java.lang.reflect.Method;
import java.nio.file.Files;
import java.nio.file.Path;
import java.util.HashSet;
import java.util.Set;
import java.util.regex.Matcher;
import java.util.regex.Pattern;

/** Makes the calls of README.md, each of which has to answer what stands behind it. */
public final class ReadmeTest {
    private static final Pattern CALL = Pattern.compile("x\\.(\\w+)\\(([^)]*)\\); +// ([\\w.-]+): .+");
    private static final Pattern ROW_CELL = Pattern.compile("\\| (\\d+) \\| ([A-Z]+)");
    private static final Due DUE = new Due();

    public static void main(String[] args) throws Exception {
        String text = Files.readString(Path.of("README.md"));
        Set<String> shown = new HashSet<>();
        ClosedWorld x = new ClosedWorld();
        for (String line : exampleOf(text).split("\n")) {
            if (line.startsWith("x.")) {
                Matcher call = CALL.matcher(line);
                DUE.is("a call with its answer: " + line, call.matches(), true);
                DUE.is(line, answer(x, call.group(1), call.group(2)), valueOf(call.group(3)));
                shown.add(call.group(1));
            }
        }
        for (Method method : ClosedWorld.class.getMethods()) {
            boolean ofTheFace = method.getDeclaringClass() == ClosedWorld.class;
            DUE.is("shows " + method.getName(), !ofTheFace || shown.contains(method.getName()), true);
        }
        ops(text);
        DUE.end();
    }

    private static String exampleOf(String text) {
        int from = text.indexOf("```java\n");
        return text.substring(from, text.indexOf("\n```\n", from));
    }

    private static int answer(ClosedWorld x, String name, String arguments) throws Exception {
        String[] words = arguments.isEmpty() ? new String[0] : arguments.split(", ");
        Class<?>[] types = new Class<?>[words.length];
        Object[] values = new Object[words.length];
        for (int k = 0; k < words.length; k++) {
            types[k] = int.class;
            values[k] = valueOf(words[k]);
        }
        return valueOf(String.valueOf(ClosedWorld.class.getMethod(name, types).invoke(x, values)));
    }

    private static int valueOf(String word) throws Exception {
        if (word.startsWith("ClosedWorld.")) {
            return ClosedWorld.class.getField(word.substring("ClosedWorld.".length())).getInt(null);
        }
        if (word.equals("true") || word.equals("false")) {
            return word.equals("true") ? 1 : 0;
        }
        return Integer.parseInt(word);
    }

    private static void ops(String text) {
        Set<Integer> told = new HashSet<>();
        Matcher cell = ROW_CELL.matcher(text);
        while (cell.find()) {
            DUE.is("the op " + cell.group(2), Due.op(cell.group(2)), Integer.parseInt(cell.group(1)));
            told.add(Integer.parseInt(cell.group(1)));
        }
        DUE.is("ops told", told.size(), 23);
    }
}
