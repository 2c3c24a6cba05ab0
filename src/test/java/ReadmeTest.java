import java.io.IOException;
import java.nio.file.Files;
import java.nio.file.Path;
import java.util.regex.Matcher;
import java.util.regex.Pattern;

/** The example in README.md: its calls are made in order, and give the answers written behind them. */
public final class ReadmeTest {
    private static final Pattern TYPED =
            Pattern.compile("type\\(console, \"(.*)\"\\); +// (-?\\w+).*");
    private static final Pattern CALLED = Pattern.compile("console\\.(\\w+)\\(([-0-9, ]*)\\); +// (-?\\w+).*");

    public static void main(String[] args) throws IOException, ReflectiveOperationException {
        Check check = new Check();
        DotConsole console = new DotConsole();
        for (String line : Files.readAllLines(Path.of("README.md"))) {
            Matcher typed = TYPED.matcher(line);
            Matcher called = CALLED.matcher(line);
            if (typed.matches()) {
                check.dueAdd(typed.group(1), console, answer(typed.group(2)));
            } else if (called.matches()) {
                int got = call(console, called.group(1), called.group(2));
                check.due(line.trim(), got, answer(called.group(3)));
            }
        }
        check.finish();
    }

    private static int answer(String written) throws ReflectiveOperationException {
        boolean isNumber = written.matches("-?[0-9]+");
        return isNumber ? Integer.parseInt(written) : DotConsole.class.getField(written).getInt(null);
    }

    private static int call(DotConsole console, String method, String written) throws ReflectiveOperationException {
        String[] texts = written.isEmpty() ? new String[0] : written.split(", *");
        Class<?>[] types = new Class<?>[texts.length];
        Object[] numbers = new Object[texts.length];
        for (int i = 0; i < texts.length; i++) {
            types[i] = int.class;
            numbers[i] = Integer.valueOf(texts[i]);
        }
        return (Integer) DotConsole.class.getMethod(method, types).invoke(console, numbers);
    }
}
