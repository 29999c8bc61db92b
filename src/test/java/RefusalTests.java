import java.lang.reflect.Method;
import java.lang.reflect.Modifier;
import java.util.ArrayList;
import java.util.Arrays;
import java.util.Comparator;
import java.util.List;
import java.util.Set;
import java.util.TreeMap;
import java.util.TreeSet;

/**
 * What is refused changes nothing but how many refusals there were, and what only asks changes nothing.
 * Two objects are made alike; one of them has one call more; then all that there is is read out of both.
 * Every call is made with all edges of its numbers, in each scene.
 */
public final class RefusalTests {
    /** The refusals that the document tells of each call. */
    private static final String TOLD = "feed -4 -6,thing -1 -2,washing -1 -4 -6,set -1 -4 -6,put -1,take -3,fresh -1,place -1 -2,when -1 -2,"
            + "waits -2,wet -4 -6,hands -2,soonest -2 -3,rack -4 -6,water -2,changed -3,where -1,alone -2 -3,week -2 -3,rule -2,"
            + "fits -4 -6 -2 -3,row -4 -6,seeds -4 -6 -2 -3,undo -3,tomorrow -4 -6 -2,stopped -4 -6 -2,picked -2,steps -2 -3,later -2,"
            + "dear -4 -6,over -4 -6 -2,restore -3";
    /** Those that change something where they are not refused. */
    private static final Set<String> CHANGING = Set.of("feed", "kitchen", "set", "put", "take", "fresh", "clear", "row", "judge", "drop",
            "undo", "image", "restore");
    private static final int[] EDGES = {Integer.MIN_VALUE, -11, -10, -1, 0, 1, 2, 3, 5, 6, 8, 9, 10, 11, 13, 20, 21, 61, 63, 64, 99, 100, 127,
        128, 255, 256, 999, 1000, Integer.MAX_VALUE};
    private static final int[] FEW = {Integer.MIN_VALUE, -11, -1, 0, 2, 11, 99, 100, 256, 1000, Integer.MAX_VALUE};
    private static final int SCENES = 7;
    private static final int MOST_CALLS = 512;

    private static int wrong = 0;
    private static int made = 0;
    private static final TreeMap<String, Set<Integer>> SEEN = new TreeMap<>();

    public static void main(String[] args) throws ReflectiveOperationException {
        List<Method> calls = new ArrayList<>(Arrays.asList(WashAndDry.class.getDeclaredMethods()));
        calls.removeIf(m -> !Modifier.isPublic(m.getModifiers()));
        calls.sort(Comparator.comparing(Method::getName));
        for (int scene = 0; scene < SCENES; scene++) {
            for (Method call : calls) {
                tryEdges(scene, call, new Object[call.getParameterCount()], 0);
            }
        }
        faultsChangeNothing();
        for (int scene = 0; scene < SCENES; scene++) {
            asked(scene, calls);
        }
        lookForUnseen();
        System.out.println(wrong == 0 ? "what is refused, and what asks, changes nothing" : wrong + " calls changed what they must not");
        if (wrong != 0) {
            System.exit(1);
        }
    }

    private static void tryEdges(int scene, Method call, Object[] given, int next) throws ReflectiveOperationException {
        if (next == given.length) {
            tryOne(scene, call, given);
            return;
        }
        for (int edge : given.length < 3 ? EDGES : FEW) {
            given[next] = edge;
            tryEdges(scene, call, given, next + 1);
        }
    }

    private static void tryOne(int scene, Method call, Object[] given) throws ReflectiveOperationException {
        WashAndDry x = scene(scene);
        WashAndDry y = scene(scene);
        int[] refused = refusals(y);
        int[] due = all(y);
        if (made >= MOST_CALLS) {
            fault("scene " + scene + " takes " + made + " calls and one");
        }
        int answer = (Integer) call.invoke(x, given);
        int number = call.getName().equals("picked") && answer > 1000000000 ? 1000000000 - answer : answer;
        boolean isRefused = number <= -1 && number >= -6 && (!call.getName().equals("picked") || number != answer);
        if (isRefused) {
            refused[-number - 1]++;
            SEEN.computeIfAbsent(call.getName(), name -> new TreeSet<>()).add(number);
        }
        String told = "scene " + scene + ": " + call.getName() + Arrays.toString(given) + ", which answered " + answer;
        if (!Arrays.equals(refused, refusals(x))) {
            fault(told + ": refusals " + Arrays.toString(refusals(x)) + ", due are " + Arrays.toString(refused));
        }
        if (isRefused || !CHANGING.contains(call.getName())) {
            int at = Arrays.mismatch(all(x), due);
            if (at >= 0) {
                fault(told + ": the " + at + "th number read out is not as it was");
            }
        }
    }

    private static void fault(String text) {
        wrong++;
        if (wrong <= 30) {
            System.out.println(text);
        }
    }

    /** Whatever was asked ahead of it, each answer is as that of an object asked nothing else. */
    private static void asked(int scene, List<Method> calls) throws ReflectiveOperationException {
        List<Method> asks = new ArrayList<>();
        List<Object[]> given = new ArrayList<>();
        for (Method call : calls) {
            int numbers = call.getParameterCount();
            for (int first = 0; first < (CHANGING.contains(call.getName()) ? 0 : numbers == 0 ? 1 : 4); first++) {
                Object[] all = {first, 1 + first % 2, 0};
                if (numbers > 1) {
                    all[numbers - 1] = first % 2;
                }
                asks.add(call);
                given.add(Arrays.copyOf(all, numbers));
            }
        }
        WashAndDry x = scene(scene);
        for (int i = 0; i < 2 * asks.size(); i++) {
            int at = i < asks.size() ? i : 2 * asks.size() - 1 - i;
            int answer = (Integer) asks.get(at).invoke(x, given.get(at));
            int due = (Integer) asks.get(at).invoke(scene(scene), given.get(at));
            if (answer != due && !asks.get(at).getName().equals("count")) {
                fault("scene " + scene + ": " + asks.get(at).getName() + Arrays.toString(given.get(at)) + " answered " + answer
                        + " behind other asking, due is " + due);
            }
        }
        if (made + 2 * asks.size() > MOST_CALLS) {
            fault("scene " + scene + " takes " + made + " calls and " + 2 * asks.size());
        }
    }

    // ---- scenes

    private static void tell(WashAndDry x, String text) {
        for (int i = 0; i < text.length(); i++) {
            x.feed(text.charAt(i));
        }
        made += text.length();
    }

    private static void kitchen(WashAndDry x, String text) {
        tell(x, text);
        if (x.kitchen() < 1) {
            fault("not a kitchen: " + text);
        }
        made++;
    }

    private static void row(WashAndDry x, int... numbers) {
        for (int v : numbers) {
            x.row(v);
        }
        made += numbers.length;
    }

    private static WashAndDry scene(int scene) {
        WashAndDry x = new WashAndDry();
        made = 0;
        switch (scene) {
            case 1:
                allKinds(x);
                break;
            case 2:
                allFull(x);
                break;
            case 3:
                kitchen(x, "t00010101;".repeat(7));
                row(x, 3, 1, 4, 1, 5, 9, 2);
                tell(x, "t0001010");
                break;
            case 4:
                kitchen(x, "t30010101;t10010101;t40210302;o01;s0=1;");
                row(x, 2, 4, 99);
                tell(x, "s3=");
                break;
            case 5:
                kitchen(x, "t00010100;");
                row(x, 0, 0, 0, 0, 0, 0, 0, 0);
                x.image();
                kitchen(x, "t11110101;o01;n1;");
                x.take();
                x.clear();
                made += 3;
                break;
            case 6:
                row(x, 5, 4, 3, 2, 1, 0, 99);
                break;
            default:
                break;
        }
        return x;
    }

    private static void allKinds(WashAndDry x) {
        kitchen(x, "t00110304;t10110203;t24920800;t33621006;t40210502;t52321205;o3150;n2;s0=3;s1=1;s2=2;s3=3;s4=9;");
        x.image();
        x.fresh(2);
        x.fresh(3);
        x.put(2);
        x.put(4);
        x.take();
        made += 6;
        row(x, 12, 0, 99, 3, 4, 50);
        tell(x, "o0;n1");
    }

    private static void allFull(WashAndDry x) {
        kitchen(x, "t00010101;".repeat(8) + "s2=30;");
        for (int thing = 0; thing < 8; thing++) {
            x.put(thing);
        }
        x.fresh(7);
        x.image();
        made += 10;
        row(x, 2, 3, 4, 5, 6, 7, 9, 10, 0, 0, 0, 0);
        tell(x, "s0=1;s1=2;s2=3;s3=1;s4=05;o76543210;n1;n2;n3;n4;n5;n6;n7;" + "n1;".repeat(12) + "n7;");
    }

    // ---- reading out

    private static int[] refusals(WashAndDry x) {
        int[] refused = new int[6];
        for (int i = 0; i < 6; i++) {
            refused[i] = x.count(11 + i);
        }
        made += 6;
        return refused;
    }

    /** All that can be read out of an object: the row and what can be undone are spent by it. */
    private static int[] all(WashAndDry x) {
        List<Integer> told = new ArrayList<>();
        counts(x, told);
        things(x, told);
        places(x, told);
        told.add(x.through());
        told.add(x.week(0));
        told.add(x.steps(0));
        told.add(x.judge());
        made += 4;
        for (int i = x.count(7); i > 0; i--) {
            told.add(x.undo());
            places(x, told);
            made++;
        }
        tell(x, ";");
        told.add(x.kitchen());
        counts(x, told);
        places(x, told);
        told.add(x.restore());
        counts(x, told);
        places(x, told);
        made += 3;
        int[] row = new int[told.size()];
        for (int i = 0; i < row.length; i++) {
            row[i] = told.get(i);
        }
        return row;
    }

    private static void counts(WashAndDry x, List<Integer> told) {
        for (int what = 0; what <= 7; what++) {
            told.add(x.count(what));
        }
        for (int what = 20; what <= 24; what++) {
            told.add(x.count(what));
        }
        made += 13;
    }

    private static void things(WashAndDry x, List<Integer> told) {
        int things = x.count(0);
        for (int thing = 0; thing < things; thing++) {
            for (int what = 0; what <= 5; what++) {
                told.add(x.thing(thing, what));
            }
        }
        made += 1 + 6 * things;
    }

    private static void places(WashAndDry x, List<Integer> told) {
        int size = x.count(1);
        told.add(x.count(2));
        for (int place = 0; place < size; place++) {
            told.add(x.place(place, 0));
        }
        if (size > 0) {
            told.add(x.place(size - 1, 1));
            made++;
        }
        made += 2 + size;
    }

    // ---- faults, and what was not seen

    private static void faultsChangeNothing() {
        String[] faults = {"x", "o;n", "s0=9;t00010101;o0;n", "s0=9;t60010101;", "t00010101;o;s9=0;", "o;o9;", "s1=9;s2=0;", "n0;"};
        for (int scene = 0; scene < SCENES; scene++) {
            for (String text : faults) {
                WashAndDry x = scene(scene);
                WashAndDry y = scene(scene);
                x.kitchen();
                y.kitchen();
                tell(x, text);
                int answer = x.kitchen();
                if (answer > -1000) {
                    fault("scene " + scene + ": kitchen() of " + text + " answered " + answer);
                }
                if (!Arrays.equals(refusals(x), refusals(y)) || !Arrays.equals(all(x), all(y))) {
                    fault("scene " + scene + ": kitchen() of " + text + " changed something");
                }
            }
        }
    }

    private static void lookForUnseen() {
        TreeMap<String, Set<Integer>> told = new TreeMap<>();
        for (String call : TOLD.split(",")) {
            String[] words = call.split(" ");
            Set<Integer> numbers = new TreeSet<>();
            for (int i = 1; i < words.length; i++) {
                numbers.add(Integer.parseInt(words[i]));
            }
            told.put(words[0], numbers);
        }
        if (!told.equals(SEEN)) {
            fault("refusals seen are " + SEEN + ", told are " + told);
        }
    }
}
