import java.io.IOException;
import java.lang.reflect.Field;
import java.lang.reflect.Method;
import java.lang.reflect.Modifier;
import java.nio.file.Files;
import java.nio.file.Path;
import java.util.Arrays;
import java.util.Set;
import java.util.TreeSet;

/** The class has the document's face and nothing else that is not private. */
final class FaceTest {
    private static final Path DOC = Path.of("..", "shared", "DOC.md");
    private static final String[] FACE = {
        "int feed(int,int,int,int,int)", "boolean end(int)", "int notes()", "int fault()", "int now(int)",
        "int fact(int,int)", "int about(int,int)", "int tell(int,int,int)", "int refuted(int)", "int ring(int)",
        "int forget(int)", "int begin(int,int)", "int gap(int,int,int,int)", "int tight(int)", "int may(int,int)",
        "int ways()", "int test(int,int,int)", "int yields(int,int,int)", "int idle()", "int late(int,int,int)",
        "int ahead(int,int)", "int chain(int)", "int crowd(int)", "int room(int)", "int shape(int)", "int rank()",
        "int shapes(int)", "int make(int,int)", "int finish()", "int grow()", "int drop(int)", "int turn()",
        "int drawn(int,int)", "int undo()", "boolean image(int)", "boolean restore(int)"};

    private FaceTest() {
    }

    public static void main(String[] args) throws Exception {
        Set<String> open = new TreeSet<>();
        Set<String> publicNames = new TreeSet<>();
        for (Method m : SpanFacts.class.getDeclaredMethods()) {
            if (!Modifier.isPrivate(m.getModifiers())) {
                open.add(text(m));
                publicNames.add(m.getName());
                Check.due(m.getName() + " is public", Modifier.isPublic(m.getModifiers()), true);
            }
        }
        Check.due("the face is as it should be", open.equals(new TreeSet<>(Arrays.asList(FACE))), true);
        if (Files.exists(DOC)) {
            Check.due("the face is the document's", open.equals(documentFace()), true);
        }
        for (Method m : SpanFacts.class.getDeclaredMethods()) {
            if (Modifier.isPrivate(m.getModifiers())) {
                Check.due(m.getName() + " bears a public name", publicNames.contains(m.getName()), false);
            }
        }
        Set<String> fields = new TreeSet<>();
        for (Field f : SpanFacts.class.getDeclaredFields()) {
            if (!Modifier.isPrivate(f.getModifiers())) {
                fields.add(f.getName());
            }
            if (Modifier.isStatic(f.getModifiers())) {
                Check.due(f.getName() + " is final", Modifier.isFinal(f.getModifiers()), true);
            }
        }
        Check.due("the constants alone", fields.equals(new TreeSet<>(Arrays.asList("NONE", "HIDDEN"))), true);
        Check.due("NONE", SpanFacts.NONE, -1);
        Check.due("HIDDEN", SpanFacts.HIDDEN, -1000000);
        Check.due("the class is final", Modifier.isFinal(SpanFacts.class.getModifiers()), true);
        Check.due("constructors", SpanFacts.class.getDeclaredConstructors().length, 1);
        Check.due("public constructors", SpanFacts.class.getConstructors().length, 1);
        Method fact = SpanFacts.class.getMethod("fact", int.class, int.class);
        Check.due("fact names its exception", fact.getExceptionTypes().length, 1);
        for (Class<?> inside : SpanFacts.class.getDeclaredClasses()) {
            Check.due(inside.getName() + " is static", Modifier.isStatic(inside.getModifiers()), true);
        }
        Check.close("FaceTest");
    }

    /** The methods of the document's face, with their types alone. */
    private static Set<String> documentFace() throws IOException {
        Set<String> face = new TreeSet<>();
        for (String line : Files.readAllLines(DOC)) {
            if (line.matches("    public \\w+ \\w+\\(.*\\).*;")) {
                String plain = line.replaceAll("^ *public ", "").replaceAll("\\).*", ")");
                face.add(plain.replaceAll("(int|boolean) \\w+([,)])", "$1$2").replace(", ", ","));
            }
        }
        return face;
    }

    private static String text(Method m) {
        StringBuilder s = new StringBuilder();
        s.append(m.getReturnType().getName()).append(' ').append(m.getName()).append('(');
        Class<?>[] types = m.getParameterTypes();
        for (int i = 0; i < types.length; i++) {
            s.append(i == 0 ? "" : ",").append(types[i].getName());
        }
        return s.append(')').toString();
    }
}
