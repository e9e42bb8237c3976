import java.io.IOException;
import java.lang.reflect.Method;
import java.nio.file.Files;
import java.nio.file.Path;
import java.util.Arrays;
import java.util.regex.Matcher;
import java.util.regex.Pattern;

/** The example of README.md answers what it says; run from the project's folder. */
public final class ReadmeTest {
    private static final Pattern MAKE = Pattern.compile("SnoopingBus x = new SnoopingBus\\((.*)\\); // .*");
    private static final Pattern CALL = Pattern.compile("x\\.(\\w+)\\((.*)\\); *// (-?\\d+): .*");

    public static void main(String[] args) throws IOException, ReflectiveOperationException {
        String[] lines = example(Files.readString(Path.of("README.md")));
        Matcher make = MAKE.matcher(lines[0]);
        Due.is("the first line makes the object: " + lines[0], make.matches() ? 1 : 0, 1);
        int[] sizes = numbers(make.group(1));
        SnoopingBus x = new SnoopingBus(sizes[0], sizes[1]);
        for (int i = 1; i < lines.length; i++) {
            Matcher call = CALL.matcher(lines[i]);
            if (call.matches()) {
                Due.is(lines[i], answer(x, call.group(1), numbers(call.group(2))), Integer.parseInt(call.group(3)));
            } else {
                Due.is("a call with its answer: " + lines[i], 0, 1);
            }
        }
        Due.close();
    }

    private static String[] example(String readme) {
        String[] parts = readme.split("```java\n|\n```\n");
        return parts.length == 3 ? parts[1].split("\n") : new String[] {"one example is due in README.md"};
    }

    private static int[] numbers(String told) {
        return told.isEmpty() ? new int[0] : Arrays.stream(told.split(", ")).mapToInt(Integer::parseInt).toArray();
    }

    private static int answer(SnoopingBus x, String name, int[] arguments) throws ReflectiveOperationException {
        Class<?>[] types = new Class<?>[arguments.length];
        Arrays.fill(types, int.class);
        Method method = SnoopingBus.class.getMethod(name, types);
        return (Integer) method.invoke(x, Arrays.stream(arguments).boxed().toArray());
    }
}
