import java.io.File;
import java.io.IOException;
import java.lang.reflect.Method;
import java.lang.reflect.Modifier;
import java.nio.file.Files;
import java.nio.file.Path;
import java.util.Arrays;
import java.util.regex.Matcher;
import java.util.regex.Pattern;

/** README.md's example answers what stands beside each call, and its lists leave out no call and no test. */
public final class ReadmeTest {
    private static final Pattern CALL = Pattern.compile("x\\.(\\w+)\\(([-0-9, ]+)\\); +// (-?\\d+): .+");

    public static void main(String[] args) throws IOException, ReflectiveOperationException {
        String text = Files.readString(Path.of("README.md"));
        runExample(text);
        nameEveryCall(text);
        nameEveryTest(text);
        Check.end();
    }

    private static void runExample(String text) throws ReflectiveOperationException {
        String[] rows = text.split("```java\n")[1].split("```")[0].split("\n");
        Check.dueText("the example's first row", rows[0], "ClusterImage x = new ClusterImage();");
        ClusterImage x = new ClusterImage();
        for (int i = 1; i < rows.length; i++) {
            Matcher row = CALL.matcher(rows[i]);
            Check.due("a call with its answer: " + rows[i], row.matches() ? 1 : 0, 1);
            if (row.matches()) {
                Check.due("README.md: " + rows[i], call(x, row.group(1), row.group(2)), Long.parseLong(row.group(3)));
            }
        }
    }

    private static long call(ClusterImage x, String name, String numbers) throws ReflectiveOperationException {
        Object[] args = Arrays.stream(numbers.split(", ")).map(Integer::valueOf).toArray();
        Class<?>[] types = new Class<?>[args.length];
        Arrays.fill(types, int.class);
        return ((Number) ClusterImage.class.getMethod(name, types).invoke(x, args)).longValue();
    }

    private static void nameEveryCall(String text) {
        for (Method m : ClusterImage.class.getDeclaredMethods()) {
            if (Modifier.isPublic(m.getModifiers())) {
                String begin = "\n| `" + m.getName() + "(";
                Check.due("README.md has a row of " + m.getName(), text.contains(begin) ? 1 : 0, 1);
            }
        }
    }

    private static void nameEveryTest(String text) {
        for (String file : new File("src/test/java").list()) {
            String name = "`" + file.replace(".java", "") + "`";
            Check.due("README.md names " + name, text.contains(name) ? 1 : 0, 1);
        }
    }
}
