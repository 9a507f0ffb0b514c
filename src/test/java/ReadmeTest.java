import java.lang.reflect.Method;
import java.lang.reflect.Modifier;
import java.nio.file.Files;
import java.nio.file.Path;
import java.util.regex.Matcher;
import java.util.regex.Pattern;

/** The calls that README.md shows are made as it shows them, and answer what it says behind them. */
public final class ReadmeTest {
    private static final Path FILE = Path.of(System.getProperty("stairnews.root", "."), "README.md");
    private static final Pattern CALL = Pattern.compile("x\\.(\\w+)\\(([-0-9, ]*)\\); +// (true|false|-?\\d+)(?::.*)?");
    private static final Pattern TEXT = Pattern.compile("put\\(x, \"([^\"]*)\"\\);");

    private final StairNews x = new StairNews();
    private int calls;

    public static void main(String[] args) throws Exception {
        String readme = Files.readString(FILE);
        new ReadmeTest().go(readme);
        namesEveryCall(readme);
        Due.finish();
    }

    private void go(String readme) throws Exception {
        int from = readme.indexOf("StairNews x = new StairNews();\n");
        int to = readme.indexOf("```", Math.max(from, 0));
        String shown = from < 0 || to < 0 ? "" : readme.substring(from, to);
        for (String line : shown.split("\n")) {
            Matcher text = TEXT.matcher(line);
            Matcher call = CALL.matcher(line);
            if (text.matches()) {
                Due.tape(x, text.group(1));
            } else if (call.matches()) {
                make(line, call.group(1), call.group(2), call.group(3));
            } else {
                boolean passedOver = line.isEmpty() || line.startsWith("// ") || line.startsWith("StairNews x");
                Due.is("README.md: the line '" + line + "' is a call with its answer", passedOver, true);
            }
        }
        Due.is("README.md shows " + calls + " calls, at least 20", calls >= 20, true);
    }

    private void make(String line, String name, String numbers, String answer) throws Exception {
        String[] parts = numbers.isEmpty() ? new String[0] : numbers.split(", ");
        Class<?>[] types = new Class<?>[parts.length];
        Object[] arguments = new Object[parts.length];
        for (int i = 0; i < parts.length; i++) {
            types[i] = int.class;
            arguments[i] = Integer.valueOf(parts[i]);
        }
        String got = String.valueOf(StairNews.class.getMethod(name, types).invoke(x, arguments));
        Due.is("README.md: " + line + " (answered " + got + "), as shown", got.equals(answer), true);
        calls++;
    }

    private static void namesEveryCall(String readme) {
        for (Method m : StairNews.class.getDeclaredMethods()) {
            if (Modifier.isPublic(m.getModifiers())) {
                Due.is("README.md names `" + m.getName() + "`", readme.contains("`" + m.getName() + "`"), true);
            }
        }
    }
}
