import java.io.IOException;
import java.lang.reflect.Field;
import java.lang.reflect.Method;
import java.lang.reflect.Modifier;
import java.nio.file.Files;
import java.nio.file.Path;
import java.util.List;
import java.util.Set;
import java.util.TreeSet;

/** Those rules of LANGUAGE.md that can be seen from the class's lines and its members. */
final class RuleTest {
    private static final Path SOURCE = Path.of("src", "main", "java", "SpanFacts.java");
    private static final String[] NOT_ALLOWED = {"->", "::", "Exact(", "finally", "synchronized", "assert ", "catch", "try ",
        "instanceof", "getMessage", "static {", "System.out", "System.err", "System.nano", "System.current", "System.get",
        "Random", "Thread", "String.", "HashMap", "double ", "float ", "while (true)", "for (;;)", "Object "};
    private static final Set<String> LIBRARY = Set.of("System.arraycopy", "Arrays.fill", "Math.max", "Math.min", "Math.abs",
        "Integer.bitCount");

    private RuleTest() {
    }

    public static void main(String[] args) throws IOException {
        List<String> lines = Files.readAllLines(SOURCE);
        words(lines);
        imports(lines);
        methodLengths(lines);
        Set<String> face = new TreeSet<>();
        for (Method m : SpanFacts.class.getMethods()) {
            face.add(m.getName());
        }
        members(SpanFacts.class, face);
        for (Class<?> inside : SpanFacts.class.getDeclaredClasses()) {
            members(inside, face);
        }
        Check.due("rule 11: at most twelve classes", SpanFacts.class.getDeclaredClasses().length + 1 <= 12, true);
        Check.close("RuleTest");
    }

    private static String code(String line) {
        String plain = line.trim();
        return plain.startsWith("*") || plain.startsWith("/*") || plain.startsWith("//") ? "" : plain;
    }

    private static void words(List<String> lines) {
        for (int i = 0; i < lines.size(); i++) {
            String code = code(lines.get(i));
            for (String word : NOT_ALLOWED) {
                Check.due("line " + (i + 1) + " has " + word, code.contains(word), false);
            }
            java.util.regex.Matcher m = java.util.regex.Pattern.compile("\\b(System|Arrays|Math|Integer|Long)\\.\\w+").matcher(code);
            while (m.find()) {
                Check.due("rule 4, line " + (i + 1) + ": " + m.group(), LIBRARY.contains(m.group()), true);
            }
        }
    }

    private static void imports(List<String> lines) {
        for (String line : lines) {
            if (line.startsWith("import ") || line.startsWith("package ")) {
                boolean fine = line.equals("import java.util.Arrays;") || line.equals("import java.util.NoSuchElementException;");
                Check.due("rule 4: " + line, fine, true);
            }
        }
    }

    /** A method ends at the brace that stands as far in as its first line. */
    private static void methodLengths(List<String> lines) {
        for (int i = 0; i < lines.size(); i++) {
            String line = lines.get(i);
            if (line.matches(" {4,8}[a-zA-Z].*\\) (throws \\w+ )?\\{") && !line.trim().matches("(if|for|while|switch|else|do)\\b.*")) {
                String indent = line.substring(0, line.length() - line.stripLeading().length());
                int end = i;
                while (end < lines.size() && !lines.get(end).equals(indent + "}")) {
                    end++;
                }
                Check.due("rule 11: line " + (i + 1) + " begins " + (end - i) + " lines", end - i <= 60, true);
            }
        }
    }

    private static void members(Class<?> c, Set<String> face) {
        int fields = 0;
        for (Field f : c.getDeclaredFields()) {
            fields += Modifier.isStatic(f.getModifiers()) ? 0 : 1;
            boolean fixed = !Modifier.isStatic(f.getModifiers()) || Modifier.isFinal(f.getModifiers());
            Check.due("rule 5: " + c.getName() + "." + f.getName(), fixed, true);
        }
        Check.due("rule 11: fields of " + c.getName(), fields <= 20, true);
        for (Method m : c.getDeclaredMethods()) {
            Check.due("rule 11: parameters of " + m.getName(), m.getParameterCount() <= 7, true);
            boolean named = !Modifier.isPublic(m.getModifiers()) && face.contains(m.getName());
            Check.due("rule 1: the name " + m.getName() + " in " + c.getName(), named, false);
        }
    }
}
