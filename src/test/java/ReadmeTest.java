import java.io.IOException;
import java.lang.reflect.Method;
import java.lang.reflect.Modifier;
import java.nio.file.Files;
import java.nio.file.Path;
import java.util.Arrays;
import java.util.regex.Matcher;
import java.util.regex.Pattern;

/** What README.md says of the class: its examples answer what stands beside them, and it names each call. */
public final class ReadmeTest {
    private static final Pattern EXAMPLE = Pattern.compile("```java\n(.*?)```", Pattern.DOTALL);
    private static final Pattern TEXT = Pattern.compile("String text = \"([^\"]*)\";.*");
    private static final Pattern CALL = Pattern.compile("x\\.(\\w+)\\(([-\\d, ]*)\\); *// (-?\\d+)\\b.*");
    private static final String MADE = "WaitPlaces x = new WaitPlaces();";
    private static final String TYPED = "for (int i = 0; i < text.length(); i++) x.type(text.charAt(i));";

    private ReadmeTest() {
    }

    public static void main(String[] args) throws IOException, ReflectiveOperationException {
        String readme = Files.readString(Path.of("README.md"));
        int examples = 0;
        for (Matcher m = EXAMPLE.matcher(readme); m.find(); examples++) example(m.group(1));
        Check.due("there are examples", examples > 0 ? 1 : 0, 1);
        for (Method call : WaitPlaces.class.getDeclaredMethods()) {
            if (Modifier.isPublic(call.getModifiers())) named(readme, call);
        }
        Check.end("ReadmeTest");
    }

    private static void named(String readme, Method call) {
        String form = "`" + call.getName() + "\\(\\w*" + ", \\w+".repeat(Math.max(0, call.getParameterCount() - 1)) + "\\)`";
        Check.due("README.md names " + call.getName(), Pattern.compile(form).matcher(readme).find() ? 1 : 0, 1);
    }

    private static void example(String lines) throws ReflectiveOperationException {
        WaitPlaces x = new WaitPlaces();
        String text = "";
        for (String line : lines.split("\n")) {
            Matcher told = TEXT.matcher(line);
            Matcher call = CALL.matcher(line);
            if (told.matches()) text = told.group(1);
            else if (line.equals(TYPED)) Check.type(x, text);
            else if (call.matches()) Check.due("README.md: " + line, answer(x, call.group(1), call.group(2)), Long.parseLong(call.group(3)));
            else Check.same("README.md has a line of another form", line, MADE);
        }
    }

    private static int answer(WaitPlaces x, String name, String list) throws ReflectiveOperationException {
        Object[] numbers = list.isEmpty() ? new Object[0] : Arrays.stream(list.split(", ")).map(Integer::valueOf).toArray();
        Class<?>[] types = new Class<?>[numbers.length];
        Arrays.fill(types, int.class);
        return (Integer) WaitPlaces.class.getMethod(name, types).invoke(x, numbers);
    }
}
