import java.io.IOException;
import java.lang.reflect.Method;
import java.lang.reflect.Modifier;
import java.nio.file.Files;
import java.nio.file.Path;
import java.util.regex.Matcher;
import java.util.regex.Pattern;

/** README's example answers what stands behind it, and README names each call of the class. */
public final class ReadmeTest extends Checks {
    private static final Pattern ASKED = Pattern.compile("meet\\.(\\w+)\\(([-\\d, ]*)\\);\\s*// (-?\\d+)\\b.*");
    private static final Pattern TEXT = Pattern.compile("String ground = \"([^\"]*)\";");

    public static void main(String[] args) throws Exception {
        String readme = Files.readString(Path.of("README.md"));
        about("README's example");
        example(readme);
        about("README names each call");
        names(readme);
        end();
    }

    private static void example(String readme) throws Exception {
        int from = readme.indexOf("```java");
        String example = readme.substring(from, readme.indexOf("```", from + 3));
        Matcher text = TEXT.matcher(example);
        due("a ground", text.find() ? 1 : 0, 1);
        MarkToBoard meet = new MarkToBoard();
        feedAll(meet, text.group(1));
        int lines = 0;
        for (String line : example.split("\n")) {
            Matcher m = ASKED.matcher(line);
            if (!m.matches()) continue;
            lines++;
            due(line, answer(meet, m.group(1), m.group(2)), Long.parseLong(m.group(3)));
        }
        due("lines with an answer", lines, 12);
    }

    private static long answer(MarkToBoard meet, String name, String numbers) throws Exception {
        String[] told = numbers.isEmpty() ? new String[0] : numbers.split(", ");
        Class<?>[] types = new Class<?>[told.length];
        Object[] values = new Object[told.length];
        for (int i = 0; i < told.length; i++) {
            types[i] = int.class;
            values[i] = Integer.parseInt(told[i]);
        }
        return ((Number) MarkToBoard.class.getMethod(name, types).invoke(meet, values)).longValue();
    }

    private static void names(String readme) throws IOException {
        for (Method m : MarkToBoard.class.getDeclaredMethods()) {
            if (Modifier.isPublic(m.getModifiers())) due(m.getName(), readme.contains("`" + m.getName() + "`") ? 1 : 0, 1);
        }
    }
}
