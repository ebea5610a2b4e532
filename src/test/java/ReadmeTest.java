import java.io.IOException;
import java.lang.reflect.InvocationTargetException;
import java.lang.reflect.Method;
import java.nio.file.Files;
import java.nio.file.Path;
import java.util.Arrays;
import java.util.regex.Matcher;
import java.util.regex.Pattern;

/** The calls that README.md shows behind its text, in order, with the answers that it tells. */
public final class ReadmeTest {
    private static final Pattern TEXT = Pattern.compile("```text\n(.*?)```", Pattern.DOTALL);
    private static final Pattern CALL = Pattern.compile("(?m)^desk\\.(\\w+)\\(([-0-9, ]*)\\); +// (\\S+)");

    public static void main(String[] args) throws IOException, IllegalAccessException {
        String page = Files.readString(Path.of("README.md"));
        Matcher text = TEXT.matcher(page);
        if (!text.find()) {
            throw new IllegalStateException("README.md shows no text");
        }
        CarbonDates desk = Desks.desk(text.group(1).replace("\n", ""));
        Matcher call = CALL.matcher(page);
        int calls = 0;
        while (call.find()) {
            calls++;
            String got = answer(desk, call.group(1), call.group(2));
            if (!got.equals(call.group(3))) {
                Desks.wrong++;
                System.out.println(call.group() + ": answered " + got);
            }
        }
        Desks.due("calls that README.md shows", Math.min(calls, 20), 20);
        Desks.end("ReadmeTest");
    }

    private static String answer(CarbonDates desk, String name, String numbers) throws IllegalAccessException {
        Object[] given = numbers.isBlank() ? new Object[0]
                : Arrays.stream(numbers.split(",")).map(n -> Integer.valueOf(n.trim())).toArray();
        for (Method method : CarbonDates.class.getMethods()) {
            if (method.getName().equals(name) && method.getParameterCount() == given.length) {
                try {
                    return method.invoke(desk, given).toString();
                } catch (InvocationTargetException e) {
                    return e.getCause().getClass().getSimpleName();
                }
            }
        }
        return "no such call";
    }
}
