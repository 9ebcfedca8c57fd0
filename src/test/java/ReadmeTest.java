import java.lang.reflect.Method;
import java.lang.reflect.Modifier;
import java.nio.file.Files;
import java.nio.file.Path;
import java.util.regex.Matcher;
import java.util.regex.Pattern;

/** What README.md shows is what the class answers, and no call of the face is left out there. */
public final class ReadmeTest {
    private static final Pattern CALL = Pattern.compile("^books\\.(\\w+)\\(([^)]*)\\); +// (-?\\d+)(?!\\d).*$", Pattern.MULTILINE);

    public static void main(String[] args) throws Exception {
        String readme = Files.readString(Path.of("README.md"));
        Check check = new Check("ReadmeTest");
        check.test("each line of the example", x -> {
            int lines = 0;
            Matcher line = CALL.matcher(readme);
            while (line.find()) {
                check.due(line.group(1) + "(" + line.group(2) + ")", answer(x, line), Long.parseLong(line.group(3)));
                lines++;
            }
            check.due("lines with an answer", lines, readme.split("\nbooks\\.", -1).length - 1);
            check.due("lines at all", lines > 0 ? 1 : 0, 1);
        });
        check.test("every call of the face is named", x -> {
            for (Method method : WhoPays.class.getDeclaredMethods()) {
                if (Modifier.isPublic(method.getModifiers())) {
                    check.due(method.getName(), readme.contains("`" + method.getName() + "(") ? 1 : 0, 1);
                }
            }
        });
        check.end();
    }

    private static long answer(WhoPays x, Matcher line) {
        String[] told = line.group(2).isEmpty() ? new String[0] : line.group(2).split(", *");
        Class<?>[] types = new Class<?>[told.length];
        Object[] values = new Object[told.length];
        for (int k = 0; k < told.length; k++) {
            types[k] = int.class;
            values[k] = Integer.valueOf(told[k]);
        }
        try {
            return ((Number) WhoPays.class.getMethod(line.group(1), types).invoke(x, values)).longValue();
        } catch (ReflectiveOperationException thrown) {
            throw new IllegalStateException(thrown);
        }
    }
}
