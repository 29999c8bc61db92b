import java.io.IOException;
import java.lang.reflect.Method;
import java.lang.reflect.Modifier;
import java.nio.charset.StandardCharsets;
import java.nio.file.Files;
import java.nio.file.Path;
import java.util.regex.Matcher;
import java.util.regex.Pattern;

/** What README.md shows is so: its calls answer what is written behind them, and it names every call. */
public final class ReadmeTests {
    private static final Pattern TOLD = Pattern.compile("String told = \"([^\"]*)\";");
    private static final Pattern CALL = Pattern.compile("^x\\.(\\w+)\\(([-0-9, ]*)\\); +// (-?\\d+)\\b.*$");
    private static int wrong = 0;

    public static void main(String[] args) throws IOException, ReflectiveOperationException {
        String text = Files.readString(Path.of("README.md"), StandardCharsets.UTF_8);
        shownCallsAnswer(text);
        everyCallIsNamed(text);
        System.out.println(wrong == 0 ? "the README holds" : wrong + " faults of the README");
        if (wrong != 0) {
            System.exit(1);
        }
    }

    private static void fault(String what) {
        wrong++;
        System.out.println("README.md: " + what);
    }

    private static void shownCallsAnswer(String text) throws ReflectiveOperationException {
        WashAndDry x = new WashAndDry();
        Matcher told = TOLD.matcher(text);
        if (!told.find()) {
            fault("it tells no kitchen");
            return;
        }
        for (char letter : told.group(1).toCharArray()) {
            x.feed(letter);
        }
        int shown = 0;
        for (String line : text.split("\n")) {
            Matcher call = CALL.matcher(line);
            if (call.matches()) {
                shown++;
                int got = answer(x, call.group(1), call.group(2));
                if (got != Integer.parseInt(call.group(3))) {
                    fault(line + " answered " + got);
                }
            } else if (line.startsWith("x.")) {
                fault("no answer is told: " + line);
            }
        }
        if (shown == 0) {
            fault("it shows no call");
        }
    }

    private static int answer(WashAndDry x, String name, String numbers) throws ReflectiveOperationException {
        String[] told = numbers.isEmpty() ? new String[0] : numbers.split(", *");
        Object[] given = new Object[told.length];
        Class<?>[] types = new Class<?>[told.length];
        for (int i = 0; i < told.length; i++) {
            given[i] = Integer.parseInt(told[i]);
            types[i] = int.class;
        }
        return (int) WashAndDry.class.getMethod(name, types).invoke(x, given);
    }

    private static void everyCallIsNamed(String text) {
        for (Method call : WashAndDry.class.getDeclaredMethods()) {
            boolean named = Pattern.compile("(`|x\\.)" + call.getName() + "[`(]").matcher(text).find();
            if (Modifier.isPublic(call.getModifiers()) && !named) {
                fault("it does not name " + call.getName());
            }
        }
    }
}
