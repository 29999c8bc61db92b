import java.lang.reflect.InvocationTargetException;
import java.lang.reflect.Method;
import java.util.ArrayList;
import java.util.Arrays;
import java.util.Comparator;
import java.util.List;
import java.util.Random;

/** No call ever throws, whatever it is given and whenever; the same calls give the same answers. */
public final class AnyCallTests {
    private static final int[] NUMBERS = {Integer.MIN_VALUE, Integer.MIN_VALUE + 1, -1000000, -11, -10, -2, -1, 0, 1, 2, 3, 4, 5, 6,
        7, 8, 9, 10, 11, 12, 13, 16, 20, 21, 31, 32, 33, 63, 64, 95, 96, 99, 100, 255, 256, 999, 1000, 65536, 1000000000,
        Integer.MAX_VALUE - 1, Integer.MAX_VALUE};
    private static final String LETTERS = "ssttoonn==;;;;00112233445566778899x";

    public static void main(String[] args) throws IllegalAccessException {
        List<Method> calls = new ArrayList<>(Arrays.asList(WashAndDry.class.getDeclaredMethods()));
        calls.removeIf(m -> !java.lang.reflect.Modifier.isPublic(m.getModifiers()));
        calls.sort(Comparator.comparing(Method::getName));
        int wrong = 0;
        if (calls.size() != 44) {
            wrong++;
            System.out.println(calls.size() + " calls, not 44");
        }
        for (int run = 0; run < 150 && wrong == 0; run++) {
            wrong += play(calls, run);
        }
        System.out.println(wrong == 0 ? "no call threw" : wrong + " calls went wrong");
        if (wrong != 0) {
            System.exit(1);
        }
    }

    private static int play(List<Method> calls, int run) throws IllegalAccessException {
        Random random = new Random(run);
        WashAndDry x = new WashAndDry();
        WashAndDry y = new WashAndDry();
        for (int things = random.nextInt(9); things > 0; things--) {
            tell(x, y, String.format("t%d%d%d%d%02d%02d;", random.nextInt(6), random.nextInt(10), random.nextInt(10),
                    1 + random.nextInt(3), 1 + random.nextInt(20), random.nextInt(21)));
        }
        for (int i = 0; i < 600; i++) {
            Method call = random.nextInt(4) == 0 ? named(calls, List.of("feed", "put", "fresh", "row").get(random.nextInt(4)))
                    : calls.get(random.nextInt(calls.size()));
            Object[] given = new Object[call.getParameterCount()];
            for (int a = 0; a < given.length; a++) {
                given[a] = random.nextInt(3) == 0 ? NUMBERS[random.nextInt(NUMBERS.length)] : random.nextInt(8);
            }
            if (call.getName().equals("feed") && random.nextInt(5) > 0) {
                given[0] = (int) LETTERS.charAt(random.nextInt(LETTERS.length()));
            }
            try {
                Object one = call.invoke(x, given);
                Object other = call.invoke(y, given);
                if (!one.equals(other)) {
                    System.out.println("run " + run + ": " + call.getName() + Arrays.toString(given) + " " + one + " and " + other);
                    return 1;
                }
            } catch (InvocationTargetException thrown) {
                System.out.println("run " + run + ": " + call.getName() + Arrays.toString(given) + " threw " + thrown.getCause());
                return 1;
            }
        }
        return 0;
    }

    private static Method named(List<Method> calls, String name) {
        for (Method call : calls) {
            if (call.getName().equals(name)) {
                return call;
            }
        }
        return calls.get(0);
    }

    private static void tell(WashAndDry x, WashAndDry y, String text) {
        for (char letter : text.toCharArray()) {
            x.feed(letter);
            y.feed(letter);
        }
        x.kitchen();
        y.kitchen();
    }
}
