import java.lang.reflect.Method;
import java.lang.reflect.Modifier;
import java.nio.file.Files;
import java.nio.file.Path;
import java.util.Set;
import java.util.TreeSet;
import java.util.regex.Matcher;
import java.util.regex.Pattern;

/** The run of calls in README.md is made as it stands there: each answer is the class's own, and no call is missing. */
public final class ReadmeTest {
    private static final Pattern RUN = Pattern.compile("(?s)```java\n(.*?)```");
    private static final Pattern CALL = Pattern.compile("x\\.(\\w+)\\((.*)\\); +// (-?\\d+|[A-Z]+)(:.*)?");
    private static final String MAKER = "FoldedStrip x = new FoldedStrip();";
    private static final Due DUE = new Due("README.md");

    private static FoldedStrip x = null;
    private static final Set<String> called = new TreeSet<>();

    public static void main(String[] args) throws ReflectiveOperationException, java.io.IOException {
        Matcher run = RUN.matcher(Files.readString(Path.of("README.md")));
        while (run.find()) {
            for (String line : run.group(1).split("\n")) follow(line);
        }
        for (Method method : FoldedStrip.class.getDeclaredMethods()) {
            if (!Modifier.isPublic(method.getModifiers())) continue;
            DUE.is(method.getName() + " is called", called.contains(method.getName()) ? 1 : 0, 1);
        }
        Due.finish();
    }

    private static void follow(String line) throws ReflectiveOperationException {
        if (line.isEmpty() || line.startsWith("//")) return;
        if (line.equals(MAKER)) {
            x = new FoldedStrip();
            return;
        }
        Matcher call = CALL.matcher(line);
        boolean read = call.matches();
        DUE.is("a call with its answer: " + line, read ? 1 : 0, 1);
        if (read) DUE.is(line, answer(call.group(1), call.group(2)), want(call.group(3)));
    }

    private static long answer(String name, String given) throws ReflectiveOperationException {
        called.add(name);
        String[] words = given.isEmpty() ? new String[0] : given.split(", ");
        for (Method method : FoldedStrip.class.getDeclaredMethods()) {
            if (!Modifier.isPublic(method.getModifiers()) || !method.getName().equals(name)) continue;
            Object[] numbers = new Object[words.length];
            for (int word = 0; word < words.length; word++) numbers[word] = value(words[word]);
            return ((Number) method.invoke(x, numbers)).longValue();
        }
        throw new IllegalStateException("no call " + name);
    }

    private static Object value(String word) {
        if (word.equals("true") || word.equals("false")) return word.equals("true");
        return word.startsWith("'") ? (int) word.charAt(1) : Integer.parseInt(word);
    }

    private static long want(String told) throws ReflectiveOperationException {
        if (Character.isUpperCase(told.charAt(0))) return FoldedStrip.class.getField(told).getInt(null);
        return Long.parseLong(told);
    }
}
