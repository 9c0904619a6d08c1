import java.io.IOException;
import java.lang.reflect.Field;
import java.lang.reflect.Method;
import java.lang.reflect.Modifier;
import java.nio.file.Files;
import java.nio.file.Path;
import java.util.HashMap;
import java.util.Map;
import java.util.regex.Matcher;
import java.util.regex.Pattern;

/** README.md: its example answers what stands there, and it names each call and constant. */
public final class ReadmeTest {
    private static final Path README = Path.of("README.md");
    private static final Pattern EXAMPLE = Pattern.compile("```java\n(.*?)```", Pattern.DOTALL);
    private static final Pattern CALL = Pattern.compile("(?:int (\\w+) = )?kernel\\.(\\w+)\\((.*?)\\); +// (-?\\w+).*");

    private final Run run = new Run();
    // What the names in the example stand for.
    private final Map<String, String> values = new HashMap<>();

    public static void main(String[] args) throws IOException {
        Due.in("README.md");
        String text = Files.readString(README).replace("\r\n", "\n");
        Matcher example = EXAMPLE.matcher(text);
        Due.that("has an example", example.find());
        new ReadmeTest().lookAt(example.group(1));
        names(text);
        Due.end();
    }

    private void lookAt(String example) {
        String[] lines = example.split("\n");
        Due.that("the example begins with a new object", lines[0].equals("PageKernel kernel = new PageKernel();"));
        for (int i = 1; i < lines.length; i++) {
            Matcher call = CALL.matcher(lines[i]);
            boolean told = call.matches();
            Due.that(lines[i] + ": has a call and its answer", told);
            if (told) {
                make(call);
            }
        }
    }

    private void make(Matcher call) {
        StringBuilder text = new StringBuilder(call.group(2));
        for (String argument : call.group(3).split(", *")) {
            text.append(' ').append(values.getOrDefault(argument, argument));
        }
        run.calls(text + " = " + call.group(4));
        if (call.group(1) != null) {
            values.put(call.group(1), call.group(4));
        }
    }

    private static void names(String text) {
        for (Method method : PageKernel.class.getDeclaredMethods()) {
            if (Modifier.isPublic(method.getModifiers())) {
                String arguments = method.getParameterCount() == 0 ? "" : "\\w+(, \\w+){" + (method.getParameterCount() - 1) + "}";
                Due.that("has a row for " + method.getName(),
                    Pattern.compile("\n\\| `" + method.getName() + "\\(" + arguments + "\\)` \\|").matcher(text).find());
            }
        }
        for (Field field : PageKernel.class.getFields()) {
            Due.that("tells the value of " + field.getName(),
                text.replace('\n', ' ').contains("`" + field.getName() + "` " + valueOf(field)));
        }
    }

    private static int valueOf(Field field) {
        try {
            return field.getInt(null);
        } catch (IllegalAccessException e) {
            return 0;
        }
    }
}
