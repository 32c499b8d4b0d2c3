import java.io.IOException;
import java.lang.reflect.Constructor;
import java.lang.reflect.Field;
import java.lang.reflect.Method;
import java.lang.reflect.Modifier;
import java.nio.file.Files;
import java.nio.file.Path;
import java.util.Arrays;
import java.util.List;
import java.util.Set;
import java.util.TreeSet;
import java.util.regex.Matcher;
import java.util.regex.Pattern;

/** The face is the document's, and the source has no word that ../shared/LANGUAGE.md leaves out. */
public final class FaceTest {
    private static final List<String> METHODS = List.of(
        "all(int)", "back(int)", "can(int,int)", "clear()", "count(int)", "forget()", "keep(int)", "place(int,int)",
        "row(int)", "sees(int,int)", "slept()", "step(int)", "thread(int,int)", "threads()", "type(int)", "undo()",
        "unseen(int)", "worst(int)");
    private static final List<String> WORDS = List.of(
        "throw", "try", "catch", "synchronized", "assert", "import", "package", "lambda", "Object", "System\\.", "Exact",
        "hashCode", "toString", "protected", "transient", "volatile", "native", "->", "::", "@");

    private FaceTest() {
    }

    public static void main(String[] args) throws IOException {
        face();
        documentsFace();
        nested();
        source();
        methodLengths();
        Check.end("FaceTest");
    }

    private static void holds(String what, boolean so) {
        Check.due(what, so ? 1 : 0, 1);
    }

    private static String signature(Method m) {
        StringBuilder all = new StringBuilder(m.getName()).append('(');
        for (Class<?> type : m.getParameterTypes()) all.append(all.charAt(all.length() - 1) == '(' ? "" : ",").append(type.getName());
        return all.append(')').toString();
    }

    private static void face() {
        Class<?> face = WaitPlaces.class;
        holds("public and final", Modifier.isPublic(face.getModifiers()) && Modifier.isFinal(face.getModifiers()));
        Set<String> open = new TreeSet<>();
        for (Method m : face.getDeclaredMethods()) {
            if (Modifier.isPrivate(m.getModifiers())) {
                holds(m.getName() + " is private and bears no public name", METHODS.stream().noneMatch(s -> s.startsWith(m.getName() + "(")));
            } else {
                holds(m + " is public, not static, answers an int",
                    Modifier.isPublic(m.getModifiers()) && !Modifier.isStatic(m.getModifiers()) && m.getReturnType() == int.class);
                open.add(signature(m));
            }
        }
        holds("methods are " + open, open.equals(new TreeSet<>(METHODS)));
        Constructor<?>[] makers = face.getDeclaredConstructors();
        holds("one public constructor without parameters",
            makers.length == 1 && Modifier.isPublic(makers[0].getModifiers()) && makers[0].getParameterCount() == 0);
        Set<String> constants = new TreeSet<>();
        for (Field f : face.getDeclaredFields()) {
            if (!Modifier.isPrivate(f.getModifiers())) constants.add(Modifier.toString(f.getModifiers()) + " " + f.getName());
            if (Modifier.isStatic(f.getModifiers())) holds(f + " is final", Modifier.isFinal(f.getModifiers()));
        }
        String kind = "public static final ";
        holds("constants are " + constants, constants.equals(Set.of(kind + "BAD", kind + "STATE", kind + "FULL", kind + "NONE")));
    }

    /** The document's own lines: its calls are those of the list above, its constants have its values. */
    private static void documentsFace() throws IOException {
        Path place = Path.of("../shared/DOC.md");
        if (!Files.isReadable(place)) return;
        String document = Files.readString(place);
        int from = document.indexOf("## The public face");
        int to = document.indexOf("## Terms");
        holds("the document has its face ahead of its terms", from >= 0 && to > from);
        if (from < 0 || to < from) return;
        Set<String> calls = new TreeSet<>();
        int constants = 0;
        for (String line : document.substring(from, to).split("\n")) {
            Matcher call = Pattern.compile(" *public int (\\w+)\\((.*)\\);").matcher(line);
            if (call.matches()) calls.add(call.group(1) + "(" + call.group(2).replaceAll("int \\w+", "int").replace(" ", "") + ")");
            if (!line.contains("static final int")) continue;
            for (Matcher one = Pattern.compile("(\\w+) = (-?\\d+)").matcher(line); one.find(); constants++) constant(one.group(1), one.group(2));
        }
        holds("the document's calls are " + calls, calls.equals(new TreeSet<>(METHODS)));
        Check.due("the document's constants", constants, 4);
    }

    private static void constant(String name, String value) {
        try {
            Check.due(name, WaitPlaces.class.getField(name).getInt(null), Integer.parseInt(value));
        } catch (ReflectiveOperationException missing) {
            holds("there is a constant " + name, false);
        }
    }

    private static void nested() {
        Class<?>[] inside = WaitPlaces.class.getDeclaredClasses();
        holds("twelve classes at most", inside.length + 1 <= 12);
        for (Class<?> c : inside) {
            holds(c + " is static", Modifier.isStatic(c.getModifiers()));
            long fields = Arrays.stream(c.getDeclaredFields()).filter(f -> !Modifier.isStatic(f.getModifiers())).count();
            holds(c + " has twenty fields at most", fields <= 20);
            for (Method m : c.getDeclaredMethods()) holds(m + " takes seven at most", m.getParameterCount() <= 7);
        }
    }

    private static String withoutComments() throws IOException {
        String source = Files.readString(Path.of("src/main/java/WaitPlaces.java"));
        return Pattern.compile("/\\*.*?\\*/|//[^\\n]*", Pattern.DOTALL).matcher(source).replaceAll("");
    }

    private static void source() throws IOException {
        String source = withoutComments();
        for (String word : WORDS) {
            String whole = Character.isLetter(word.charAt(0)) && !word.endsWith(".") ? "\\b" + word + "\\b" : word;
            Matcher found = Pattern.compile(whole).matcher(source);
            holds("the source is without '" + word + "'", !found.find());
        }
        holds("signs of the source are plain", source.chars().allMatch(c -> c == '\n' || c >= 32 && c < 127));
    }

    private static void methodLengths() throws IOException {
        int start = 0;
        String[] lines = withoutComments().split("\n");
        for (int i = 0; i < lines.length; i++) {
            if (lines[i].matches(" {4,8}(public |private |static |final )*[\\w\\[\\]]+ \\w+\\(.*\\{")) start = i;
            if (lines[i].matches(" {4}\\}| {8}\\}")) holds("the method at '" + lines[start].trim() + "' is short", i - start <= 60 || start == 0);
        }
    }
}
