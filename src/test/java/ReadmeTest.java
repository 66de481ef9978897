import java.io.IOException;
import java.lang.reflect.InvocationTargetException;
import java.lang.reflect.Method;
import java.lang.reflect.Modifier;
import java.nio.file.Files;
import java.nio.file.Path;
import java.util.Arrays;
import java.util.List;
import java.util.regex.Matcher;
import java.util.regex.Pattern;

/** What README.md says of the calls: its example's answers, and a row of its table for each call. */
public final class ReadmeTest {
    private static final Pattern MADE = Pattern.compile("DriveRing ring = new DriveRing\\((\\d+), (\\d+)\\);.*");
    private static final Pattern CALL = Pattern.compile("ring\\.(\\w+)\\(([-\\d, ]*)\\);\\s*// (throws \\w+|[-\\w]+).*");

    public static void main(String[] args) throws IOException, ReflectiveOperationException {
        List<String> lines = Files.readAllLines(Path.of("README.md"));
        example(lines);
        table(lines);
        Check.done();
    }

    private static void example(List<String> lines) throws ReflectiveOperationException {
        int from = lines.indexOf("```java") + 1;
        Matcher made = MADE.matcher(lines.get(from));
        Check.yes("the example makes a ring first", made.matches());
        DriveRing ring = new DriveRing(Integer.parseInt(made.group(1)), Integer.parseInt(made.group(2)));
        int calls = 0;
        for (int i = from + 1; !lines.get(i).equals("```"); i++) {
            String line = lines.get(i);
            Matcher call = CALL.matcher(line);
            Check.yes("a call with its answer: " + line, call.matches());
            String got = answer(ring, call.group(1), numbers(call.group(2)));
            Check.yes(line + " answered " + got, got.equals(call.group(3)));
            calls++;
        }
        Check.yes("the example has calls", calls > 0);
    }

    private static Object[] numbers(String told) {
        return told.isEmpty() ? new Object[0] : Arrays.stream(told.split(", ")).map(Integer::valueOf).toArray();
    }

    private static String answer(DriveRing ring, String name, Object[] told) throws ReflectiveOperationException {
        Class<?>[] types = new Class<?>[told.length];
        Arrays.fill(types, int.class);
        try {
            return String.valueOf(DriveRing.class.getMethod(name, types).invoke(ring, told));
        } catch (InvocationTargetException e) {
            return "throws " + e.getCause().getClass().getSimpleName();
        }
    }

    private static void table(List<String> lines) {
        for (Method m : DriveRing.class.getDeclaredMethods()) {
            if (Modifier.isPublic(m.getModifiers())) {
                String row = "| `" + m.getName() + "(";
                Check.same("rows of the table that begin by " + row, lines.stream().filter(l -> l.startsWith(row)).count(), 1);
            }
        }
    }
}
