import java.io.IOException;
import java.lang.reflect.InvocationTargetException;
import java.lang.reflect.Method;
import java.lang.reflect.Modifier;
import java.nio.file.Files;
import java.nio.file.Path;
import java.util.regex.Matcher;
import java.util.regex.Pattern;

/** README.md tells what the class answers: each line 'x.call(..);  // answer' is called, and no call is left out. */
final class ReadmeTest {
    private static final Path README = Path.of("README.md");
    private static final Pattern CALL =
        Pattern.compile("^x\\.(\\w+)\\(([^)]*)\\);\\s*// (-?\\d+|true|false|throws \\w+)(:.*)?$");

    private ReadmeTest() {
    }

    public static void main(String[] args) throws IOException, IllegalAccessException {
        String text = Files.readString(README);
        SpanFacts x = new SpanFacts();
        int calls = 0;
        for (String line : text.split("\n")) {
            if (line.startsWith("SpanFacts x = ")) {
                x = new SpanFacts();
            } else if (line.startsWith("x.")) {
                look(x, line);
                calls++;
            }
        }
        Check.due("calls are shown", calls >= 20, true);
        for (Method m : SpanFacts.class.getDeclaredMethods()) {
            if (Modifier.isPublic(m.getModifiers())) {
                Check.due("README.md names " + m.getName(), text.contains("`" + m.getName() + "` "), true);
            }
        }
        Check.close("ReadmeTest");
    }

    private static void look(SpanFacts x, String line) throws IllegalAccessException {
        Matcher m = CALL.matcher(line);
        Check.due("'" + line + "' can be read", m.matches(), true);
        if (m.matches()) {
            String got = answer(x, m.group(1), m.group(2));
            Check.due("'" + line + "' (it is " + got + ")", got.equals(m.group(3)), true);
        }
    }

    private static String answer(SpanFacts x, String name, String list) throws IllegalAccessException {
        String[] words = list.isEmpty() ? new String[0] : list.split(", ");
        Object[] numbers = new Object[words.length];
        for (int i = 0; i < words.length; i++) {
            numbers[i] = Integer.decode(words[i]);
        }
        for (Method m : SpanFacts.class.getDeclaredMethods()) {
            if (m.getName().equals(name) && m.getParameterCount() == words.length) {
                try {
                    return m.invoke(x, numbers).toString();
                } catch (InvocationTargetException e) {
                    return "throws " + e.getCause().getClass().getSimpleName();
                }
            }
        }
        return "no such call";
    }
}
