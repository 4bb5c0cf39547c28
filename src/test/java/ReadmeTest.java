import java.io.IOException;
import java.lang.reflect.Method;
import java.nio.file.Files;
import java.nio.file.Path;
import java.util.regex.Matcher;
import java.util.regex.Pattern;

/** Each call that README.md shows, in their order, answers what the page tells of it. */
final class ReadmeTest {
    private static final Pattern CALL = Pattern.compile("(?m)^bench\\.(\\w+)\\(([^)]*)\\);\\s*// (-?[0-9]+)");
    private static final Checks checks = new Checks("ReadmeTest");

    private ReadmeTest() {
    }

    public static void main(String[] args) throws IOException, ReflectiveOperationException {
        WordBench bench = new WordBench();
        String page = Files.readString(Path.of("README.md"));
        Matcher call = CALL.matcher(page);
        int seen = 0;
        while (call.find()) {
            seen++;
            checks.due(call.group(), answer(bench, call.group(1), call.group(2)), Long.parseLong(call.group(3)));
        }
        checks.due("calls seen", seen, page.lines().filter(line -> line.startsWith("bench.")).count());
        checks.holds("some calls", seen > 9);
        checks.end();
    }

    private static long answer(WordBench bench, String name, String told) throws ReflectiveOperationException {
        String[] texts = told.isEmpty() ? new String[0] : told.split(", ");
        Class<?>[] types = new Class<?>[texts.length];
        Object[] numbers = new Object[texts.length];
        for (int i = 0; i < texts.length; i++) {
            types[i] = int.class;
            numbers[i] = Integer.valueOf(texts[i]);
        }
        Method method = WordBench.class.getMethod(name, types);
        return ((Number) method.invoke(bench, numbers)).longValue();
    }
}
