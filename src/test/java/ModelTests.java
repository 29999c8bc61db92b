import java.util.ArrayDeque;
import java.util.ArrayList;
import java.util.Arrays;
import java.util.Collections;
import java.util.Comparator;
import java.util.HashMap;
import java.util.List;
import java.util.Map;
import java.util.Random;
import java.util.TreeSet;
import java.util.function.Consumer;

/**
 * Random runs of all calls, each answer beside that of a second reckoning of the document,
 * which goes minute by minute and tries everything out, where the program goes thing by thing.
 */
public final class ModelTests {
    private static final int RUNS = 400;
    private static final int CALLS = 500;
    private static int wrong = 0;

    public static void main(String[] args) {
        for (int run = 0; run < RUNS && wrong < 20; run++) {
            new Run(run).play();
        }
        System.out.println(wrong == 0 ? "all answers are as the model's" : wrong + " answers are not as the model's");
        if (wrong != 0) {
            System.exit(1);
        }
    }

    /** One object and its model, with the calls so far. */
    private static final class Run {
        final int number;
        final Random random;
        final WashAndDry x = new WashAndDry();
        final Model m = new Model();
        final List<String> calls = new ArrayList<>();
        final int mostThings;

        Run(int number) {
            this.number = number;
            random = new Random(number * 7919L + 17);
            mostThings = 3 + random.nextInt(6);
        }

        void play() {
            tell(kitchenOf(mostThings - random.nextInt(2)));
            for (int i = calls.size(); i < CALLS && wrong < 20; i++) {
                step();
            }
        }

        int number(int least, int most) {
            if (random.nextInt(25) == 0) {
                int[] far = {least - 1, most + 1, -1, Integer.MIN_VALUE, Integer.MAX_VALUE, least, most};
                return far[random.nextInt(far.length)];
            }
            return least + random.nextInt(most - least + 1);
        }

        void due(String call, int got, int want) {
            calls.add(call);
            if (got != want) {
                wrong++;
                System.out.println("run " + number + ": " + call + " answered " + got + ", the model " + want);
                if (wrong <= 3) {
                    System.out.println("  after " + String.join(" ", calls));
                }
            }
        }

        String kitchenOf(int things) {
            StringBuilder text = new StringBuilder();
            for (int i = 0; i < things; i++) {
                int dry = random.nextInt(3) == 0 ? 0 : random.nextInt(21);
                text.append(String.format("t%d%d%d%d%02d%02d;", random.nextInt(6), random.nextInt(10),
                        random.nextInt(10), 1 + random.nextInt(3), 1 + random.nextInt(20), dry));
            }
            return text.toString();
        }

        String anyText() {
            switch (random.nextInt(8)) {
                case 0:
                    return kitchenOf(1);
                case 1:
                    return "s" + random.nextInt(6) + "=" + random.nextInt(70) + ";";
                case 2:
                    return "n" + random.nextInt(8) + ";";
                case 3:
                case 4:
                    List<Integer> all = new ArrayList<>();
                    for (int i = 0; i < m.things.size(); i++) {
                        all.add(i);
                    }
                    Collections.shuffle(all, random);
                    StringBuilder o = new StringBuilder("o");
                    for (int thing : all) {
                        o.append(random.nextInt(30) == 0 ? random.nextInt(10) : thing);
                    }
                    return o.append(";n").append(1 + random.nextInt(4)).append(";").toString();
                case 5:
                    return random.nextBoolean() ? "" : "t60110304;";
                case 6:
                    String whole = "s0=3;o01;n1;";
                    int at = random.nextInt(whole.length());
                    return whole.substring(0, at) + "stno=;019x".charAt(random.nextInt(10)) + whole.substring(at + 1);
                default:
                    return "o012345678;".substring(0, random.nextInt(12));
            }
        }

        void tell(String text) {
            for (char letter : text.toCharArray()) {
                due("feed(" + (int) letter + ")", x.feed(letter), m.feed(letter));
            }
            due("kitchen()", x.kitchen(), m.kitchen());
        }

        void step() {
            int a = number(0, 7);
            int b = number(0, 7);
            int e = number(0, 1);
            int minute = random.nextInt(12) == 0 ? number(0, 999) : number(0, 160);
            int bits = number(0, (1 << m.things.size()) - 1);
            switch (random.nextInt(60)) {
                case 0: tell(anyText()); break;
                case 1: int letter = number(0, 255); due("feed(" + letter + ")", x.feed(letter), m.feed(letter)); break;
                case 2: int w = number(0, 8); due("thing(" + a + "," + w + ")", x.thing(a, w), m.thing(a, w)); break;
                case 3: int me = number(0, 999); int g = number(0, 99);
                    due("washing(" + a + "," + me + "," + g + ")", x.washing(a, me, g), m.washing(a, me, g)); break;
                case 4: case 5: int s = number(0, 4); int v = number(Model.LEAST[Math.floorMod(s, 5)], Model.MOST[Math.floorMod(s, 5)]);
                    due("set(" + s + "," + v + ")", x.set(s, v), m.set(s, v)); break;
                case 6: case 7: case 8: case 9: case 10: case 11: case 12: case 13:
                    due("put(" + a + ")", x.put(a), m.put(a)); break;
                case 14: due("take()", x.take(), m.take()); break;
                case 15: case 16: due("fresh(" + a + ")", x.fresh(a), m.fresh(a)); break;
                case 17: due("place(" + a + "," + e + ")", x.place(a, e), m.place(a, e)); break;
                case 18: if (random.nextInt(4) == 0) { due("clear()", x.clear(), m.clear()); } break;
                case 19: due("may()", x.may(), m.may()); break;
                case 20: case 21: case 22: int moment = number(0, 4);
                    due("when(" + a + "," + moment + ")", x.when(a, moment), m.when(a, moment)); break;
                case 23: due("through()", x.through(), m.through()); break;
                case 24: case 25: int wait = number(0, 3); due("waits(" + wait + ")", x.waits(wait), m.waits(wait)); break;
                case 26: due("wet(" + minute + ")", x.wet(minute), m.wet(minute)); break;
                case 27: due("hands(" + e + ")", x.hands(e), m.hands(e)); break;
                case 28: due("soonest(" + e + ")", x.soonest(e), m.soonest(e)); break;
                case 29: due("rack(" + minute + ")", x.rack(minute), m.rack(minute)); break;
                case 30: due("water(" + e + ")", x.water(e), m.water(e)); break;
                case 31: due("cloths()", x.cloths(), m.cloths()); break;
                case 32: due("changed()", x.changed(), m.changed()); break;
                case 33: due("where(" + a + ")", x.where(a), m.where(a)); break;
                case 34: due("either()", x.either(), m.either()); break;
                case 35: due("alone(" + e + ")", x.alone(e), m.alone(e)); break;
                case 36: due("third()", x.third(), m.third()); break;
                case 37: due("week(" + e + ")", x.week(e), m.week(e)); break;
                case 38: case 39: int r = number(0, 5); due("rule(" + r + "," + e + ")", x.rule(r, e), m.rule(r, e)); break;
                case 40: due("best()", x.best(), m.best()); break;
                case 41: int few = random.nextBoolean() ? bits : 1 << random.nextInt(6);
                    due("fits(" + minute + "," + few + "," + e + ")", x.fits(minute, few, e), m.fits(minute, few, e)); break;
                case 42: case 43: case 44: case 45: int n = number(0, 99); due("row(" + n + ")", x.row(n), m.row(n)); break;
                case 46: if (random.nextInt(3) == 0) { judgeRight(); } break;
                case 47: if (random.nextInt(4) == 0) { due("drop()", x.drop(), m.drop()); } break;
                case 48: int evenings = number(1, 20); int z = random.nextInt();
                    due("seeds(" + evenings + "," + z + "," + e + ")", x.seeds(evenings, z, e), m.seeds(evenings, z, e)); break;
                case 49: due("undo()", x.undo(), m.undo()); break;
                case 50: due("tomorrow(" + minute + "," + e + ")", x.tomorrow(minute, e), m.tomorrow(minute, e)); break;
                case 51: int some = random.nextBoolean() ? bits : 1 << random.nextInt(6);
                    due("stopped(" + some + "," + e + ")", x.stopped(some, e), m.stopped(some, e)); break;
                case 52: due("picked(" + e + ")", x.picked(e), m.picked(e)); break;
                case 53: stepsWithRow(); break;
                case 54: due("later(" + e + ")", x.later(e), m.later(e)); break;
                case 55: int pa = number(0, 99); int pb = number(0, 99);
                    due("dear(" + minute + "," + pa + "," + pb + ")", x.dear(minute, pa, pb), m.dear(minute, pa, pb)); break;
                case 56: int ts = number(-10, 10); int th = number(-10, 10);
                    due("over(" + ts + "," + th + "," + e + ")", x.over(ts, th, e), m.over(ts, th, e)); break;
                case 57: due("image()", x.image(), m.image()); break;
                case 58: if (random.nextInt(3) == 0) { due("restore()", x.restore(), m.restore()); } break;
                default: int c = number(0, 25); due("count(" + c + ")", x.count(c), m.count(c)); break;
            }
        }

        void judgeRight() {
            if (random.nextBoolean()) {
                due("drop()", x.drop(), m.drop());
                int places = random.nextInt(m.order.size() + 2);
                for (int p = 0; p < places; p++) {
                    int minute = m.when(p, 4);
                    m.refusals[1] -= minute == -1 ? 1 : 0;
                    due("row(" + minute + ")", x.row(minute), m.row(minute));
                }
            }
            due("judge()", x.judge(), m.judge());
        }

        void stepsWithRow() {
            int what = number(0, 2);
            due("steps(" + what + ")", x.steps(what), m.steps(what));
            due("drop()", x.drop(), m.drop());
            int many = random.nextInt(5) == 0 ? 7 : m.things.size();
            for (int i = 0; i < many; i++) {
                int n = number(0, 30);
                due("row(" + n + ")", x.row(n), m.row(n));
            }
            due("steps(" + what + ")", x.steps(what), m.steps(what));
            due("week(0)", x.week(0), m.week(0));
            due("week(1)", x.week(1), m.week(1));
        }
    }

    /** What an evening was. */
    private static final class Gone {
        int[][] when;
        int through;
        int heWaits;
        int sheWaits;
        int grease;
        int full;
    }

    /** The state ahead of a change, or of an image. */
    private static final class Saved {
        final List<Integer> order;
        final TreeSet<Integer> fresh;

        Saved(List<Integer> order, TreeSet<Integer> fresh) {
            this.order = new ArrayList<>(order);
            this.fresh = new TreeSet<>(fresh);
        }
    }

    /** The document reckoned a second time. */
    private static final class Model {
        static final int[] LEAST = {0, 0, 1, 1, 1};
        static final int[] MOST = {12, 9, 30, 3, 60};
        static final int NONE = -9;
        static final int NEVER = 1 << 29;
        List<int[]> things = new ArrayList<>();
        List<Integer> order = new ArrayList<>();
        TreeSet<Integer> fresh = new TreeSet<>();
        int[] settings = {6, 2, 5, 2, 20};
        ArrayDeque<Saved> undos = new ArrayDeque<>();
        String text = "";
        List<Integer> row = new ArrayList<>();
        int[] refusals = new int[7];
        List<int[]> keptThings = null;
        Saved keptOrder;
        int[] keptSettings;

        int no(int number) {
            refusals[-number]++;
            return number;
        }

        // ---- things and what they take

        boolean pot(int thing) {
            int kind = things.get(thing)[0];
            return kind == 2 || kind == 3 || kind == 5;
        }

        boolean drips(int thing) {
            return pot(thing) && things.get(thing)[5] == 0;
        }

        int wash(int thing, int minute, int grease) {
            int[] t = things.get(thing);
            int base = t[4] + grease / 5;
            int[] byKind = {base, t[4], base + t[1], base + t[1] + grease / 2, base / 2, base + t[1] - minute / 10};
            return Math.max(1, byKind[t[0]]);
        }

        int wash(int thing) {
            return wash(thing, 0, 0);
        }

        int dry(int thing) {
            return things.get(thing)[5] + (things.get(thing)[0] == 1 ? 1 : 0);
        }

        int both(int thing) {
            return wash(thing) + dry(thing);
        }

        // ---- an evening, minute by minute

        Gone go(List<Integer> order, TreeSet<Integer> fresh, int[] set, int start) {
            int n = order.size();
            Gone gone = new Gone();
            gone.when = new int[n][5];
            for (int[] w : gone.when) {
                Arrays.fill(w, NEVER);
            }
            int he = 0;
            String hand = "free";
            int handTill = start;
            int she = 0;
            boolean drying = false;
            int dryTill = start;
            int[] cloths = new int[set[3]];
            int cloth = 0;
            int dried = 0;
            int grease = 0;
            gone.through = start;
            for (int t = start; t < 100000; t++) {
                boolean moved = true;
                while (moved) {
                    moved = false;
                    if (hand.equals("free") && he < n) {
                        hand = fresh.contains(he) ? "water" : "ready";
                        handTill = fresh.contains(he) ? t + set[1] : t;
                        moved = true;
                    } else if (hand.equals("water") && t >= handTill) {
                        grease = 0;
                        hand = "ready";
                        moved = true;
                    } else if (hand.equals("ready")) {
                        gone.when[he][0] = t;
                        handTill = t + wash(order.get(he), t, grease);
                        hand = "washing";
                        moved = true;
                    } else if (hand.equals("washing") && t >= handTill) {
                        gone.when[he][1] = t;
                        grease += things.get(order.get(he))[2];
                        hand = "holding";
                        moved = true;
                    } else if (hand.equals("holding")) {
                        int thing = order.get(he);
                        int[] w = gone.when[he];
                        int room = things.get(thing)[3];
                        int lies = 0;
                        for (int p = 0; p < he; p++) {
                            lies += gone.when[p][3] > t ? things.get(order.get(p))[3] : 0;
                        }
                        if (room > set[0]) {
                            if (drips(thing) && t >= w[1] + things.get(thing)[1]) {
                                w[2] = w[3] = w[4] = t;
                            } else if (w[3] == t) {
                                w[2] = t;
                            }
                        } else if (lies + room <= set[0]) {
                            w[2] = t;
                            if (drips(thing)) {
                                w[3] = w[4] = t + things.get(thing)[1];
                            }
                        }
                        if (w[2] == t) {
                            hand = "free";
                            he++;
                            moved = true;
                        }
                    }
                    if (drying && t >= dryTill) {
                        drying = false;
                        gone.when[she][4] = t;
                        she++;
                        dried++;
                        if (dried == set[2]) {
                            gone.full++;
                            dried = 0;
                            cloths[cloth] = t + set[4];
                            cloth = 0;
                            for (int c = 0; c < cloths.length; c++) {
                                cloth = cloths[c] < cloths[cloth] ? c : cloth;
                            }
                        }
                        moved = true;
                    }
                    while (she < n && drips(order.get(she))) {
                        she++;
                    }
                    if (!drying && she < n && t >= cloths[cloth]) {
                        boolean lies = gone.when[she][2] <= t;
                        boolean heldOut = she == he && hand.equals("holding") && things.get(order.get(she))[3] > set[0];
                        if (lies || heldOut) {
                            gone.when[she][3] = t;
                            drying = true;
                            dryTill = t + dry(order.get(she));
                            moved = true;
                        }
                    }
                }
                boolean allDry = true;
                for (int[] w : gone.when) {
                    allDry &= w[4] <= t;
                }
                if (allDry) {
                    gone.through = t;
                    break;
                }
                gone.heWaits += hand.equals("holding") ? 1 : 0;
                gone.sheWaits += !drying && she < n ? 1 : 0;
            }
            gone.grease = grease;
            return gone;
        }

        Gone go() {
            return go(order, fresh, settings, 0);
        }

        boolean mayBe(List<Integer> order, TreeSet<Integer> fresh) {
            for (int pan = 0; pan < order.size(); pan++) {
                for (int glass = pan + 1; glass < order.size(); glass++) {
                    if (things.get(order.get(pan))[0] == 3 && things.get(order.get(glass))[0] == 1
                            && fresh.subSet(pan + 1, glass + 1).isEmpty()) {
                        return false;
                    }
                }
            }
            return true;
        }

        int wetAt(Gone gone, List<Integer> order, int minute) {
            int bits = 0;
            for (int p = 0; p < order.size(); p++) {
                bits |= gone.when[p][1] <= minute && minute < gone.when[p][4] ? 1 << order.get(p) : 0;
            }
            return bits;
        }

        int through(List<Integer> order, TreeSet<Integer> fresh) {
            return mayBe(order, fresh) ? go(order, fresh, settings, 0).through : NEVER;
        }

        int throughWith(int rack, int cloths) {
            int[] set = settings.clone();
            set[0] = rack;
            set[3] = cloths;
            return go(order, fresh, set, 0).through;
        }

        int digits(List<Integer> order) {
            int all = 0;
            int ten = 1;
            for (int thing : order) {
                all += ten * thing;
                ten *= 10;
            }
            return all;
        }

        List<Integer> all() {
            List<Integer> all = new ArrayList<>();
            for (int i = 0; i < things.size(); i++) {
                all.add(i);
            }
            return all;
        }

        void everyOrder(List<Integer> begun, Consumer<List<Integer>> each) {
            if (begun.size() == things.size()) {
                each.accept(new ArrayList<>(begun));
                return;
            }
            for (int thing = 0; thing < things.size(); thing++) {
                if (!begun.contains(thing)) {
                    begun.add(thing);
                    everyOrder(begun, each);
                    begun.remove(begun.size() - 1);
                }
            }
        }

        boolean canTurn() {
            return !things.isEmpty() && things.size() <= 6;
        }

        boolean either(int what) {
            return what == 0 || what == 1;
        }

        void save() {
            undos.push(new Saved(order, fresh));
            if (undos.size() > 8) {
                undos.removeLast();
            }
        }

        // ---- the calls

        int feed(int letter) {
            if (letter < 0) {
                return no(-4);
            }
            if (letter > 255 || text.length() == 96) {
                return no(-6);
            }
            text += (char) letter;
            return text.length();
        }

        int kitchen() {
            String told = text;
            text = "";
            String statement = "(s\\d=\\d{1,2};|t\\d{8};|o\\d{0,8};|n\\d;)";
            if (!told.matches(statement + "+")) {
                return -1000 - goesOn(told, statement);
            }
            List<int[]> newThings = new ArrayList<>(things);
            List<Integer> newOrder = new ArrayList<>(order);
            TreeSet<Integer> newFresh = new TreeSet<>(fresh);
            int[] newSettings = settings.clone();
            int at = 0;
            int statements = 0;
            for (String one : told.split(";")) {
                String rest = one.substring(1);
                boolean right = true;
                if (one.charAt(0) == 's') {
                    int s = rest.charAt(0) - '0';
                    int v = Integer.parseInt(rest.substring(2));
                    right = s < 5 && v >= LEAST[s] && v <= MOST[s];
                    if (right) {
                        newSettings[s] = v;
                    }
                } else if (one.charAt(0) == 't') {
                    int[] t = {rest.charAt(0) - '0', rest.charAt(1) - '0', rest.charAt(2) - '0', rest.charAt(3) - '0',
                            Integer.parseInt(rest.substring(4, 6)), Integer.parseInt(rest.substring(6))};
                    right = newThings.size() < 8 && t[0] < 6 && t[3] >= 1 && t[3] <= 3 && t[4] >= 1 && t[4] <= 20 && t[5] <= 20;
                    newThings.add(t);
                } else if (one.charAt(0) == 'o') {
                    newOrder.clear();
                    newFresh.clear();
                    for (char c : rest.toCharArray()) {
                        right &= c - '0' < newThings.size() && !newOrder.contains(c - '0');
                        newOrder.add(c - '0');
                    }
                } else {
                    int p = rest.charAt(0) - '0';
                    right = p > 0 && p < newOrder.size();
                    if (!newFresh.remove(p)) {
                        newFresh.add(p);
                    }
                }
                if (!right) {
                    return -2000 - at;
                }
                at += one.length() + 1;
                statements++;
            }
            things = newThings;
            order = newOrder;
            fresh = newFresh;
            settings = newSettings;
            undos.clear();
            return statements;
        }

        /** How many letters can be the beginning of statements, found by trying ends. */
        int goesOn(String told, String statement) {
            String[] ends = {"", ";", "0;", "=0;", "0=0;", "00;", "000;", "0000;", "00000;", "000000;", "0000000;", "00000000;"};
            int most = 0;
            for (int n = 1; n <= told.length(); n++) {
                for (String end : ends) {
                    most = (told.substring(0, n) + end).matches(statement + "+") ? n : most;
                }
            }
            return most;
        }

        boolean isThing(int thing) {
            return thing >= 0 && thing < things.size();
        }

        boolean isPlace(int place) {
            return place >= 0 && place < order.size();
        }

        int thing(int thing, int what) {
            if (!isThing(thing)) {
                return no(-1);
            }
            if (what < 0 || what > 8) {
                return no(-2);
            }
            int at = order.indexOf(thing);
            return what < 6 ? things.get(thing)[what] : what == 6 ? dry(thing) : what == 7 ? (drips(thing) ? 1 : 0) : at < 0 ? NONE : at;
        }

        int washing(int thing, int m, int g) {
            if (!isThing(thing)) {
                return no(-1);
            }
            if (m < 0 || g < 0) {
                return no(-4);
            }
            return m > 999 || g > 99 ? no(-6) : wash(thing, m, g);
        }

        int set(int setting, int v) {
            if (setting < 0 || setting > 4) {
                return no(-1);
            }
            if (v < LEAST[setting]) {
                return no(-4);
            }
            if (v > MOST[setting]) {
                return no(-6);
            }
            int was = settings[setting];
            settings[setting] = v;
            return was;
        }

        int put(int thing) {
            if (!isThing(thing) || order.contains(thing)) {
                return no(-1);
            }
            save();
            order.add(thing);
            return order.size();
        }

        int take() {
            if (order.isEmpty()) {
                return no(-3);
            }
            save();
            order.remove(order.size() - 1);
            fresh.remove(order.size());
            return order.size();
        }

        int fresh(int place) {
            if (place == 0 || !isPlace(place)) {
                return no(-1);
            }
            save();
            if (fresh.remove(place)) {
                return 0;
            }
            fresh.add(place);
            return 1;
        }

        int place(int place, int what) {
            if (!isPlace(place)) {
                return no(-1);
            }
            if (!either(what)) {
                return no(-2);
            }
            return what == 0 ? order.get(place) : fresh.contains(place) ? 1 : 0;
        }

        int clear() {
            int had = order.size();
            if (had > 0) {
                save();
            }
            order.clear();
            fresh.clear();
            return had;
        }

        int may() {
            return mayBe(order, fresh) ? 1 : 0;
        }

        int when(int place, int what) {
            if (!isPlace(place)) {
                return no(-1);
            }
            return what < 0 || what > 4 ? no(-2) : go().when[place][what];
        }

        int through() {
            return go().through;
        }

        int waits(int what) {
            Gone gone = go();
            return what < 0 || what > 3 ? no(-2) : new int[] {gone.heWaits, gone.sheWaits, gone.grease, gone.full}[what];
        }

        int wet(int minute) {
            return minute < 0 ? no(-4) : minute > 999 ? no(-6) : wetAt(go(), order, minute);
        }

        int handsThrough(List<Integer> order, int from, int s, int h) {
            int washed = 0;
            int dried = 0;
            for (int p = 0; p < order.size(); p++) {
                int thing = order.get(p);
                int moreWash = p < from ? 0 : s;
                int moreDry = p < from ? 0 : h;
                washed += wash(thing) - Math.floorDiv(-wash(thing) * moreWash, 20);
                if (!drips(thing)) {
                    dried = Math.max(dried, washed) + dry(thing) - Math.floorDiv(-dry(thing) * moreDry, 20);
                }
            }
            return Math.max(washed, dried);
        }

        int hands(int what) {
            if (!either(what)) {
                return no(-2);
            }
            List<Integer> first = all();
            first.removeIf(k -> wash(k) > dry(k));
            first.sort(Comparator.comparingInt(this::wash));
            List<Integer> last = all();
            last.removeIf(k -> wash(k) <= dry(k));
            last.sort(Comparator.comparingInt(k -> -dry(k)));
            first.addAll(last);
            return what == 0 ? digits(first) : handsThrough(first, 99, 0, 0);
        }

        int soonest(int what) {
            if (!either(what)) {
                return no(-2);
            }
            if (!canTurn()) {
                return no(-3);
            }
            int[] best = {NEVER, NONE};
            everyOrder(new ArrayList<>(), o -> {
                int through = through(o, new TreeSet<>());
                if (through < best[0]) {
                    best[0] = through;
                    best[1] = digits(o);
                }
            });
            return best[what];
        }

        int rack(int minute) {
            if (minute < 0) {
                return no(-4);
            }
            if (minute > 999) {
                return no(-6);
            }
            for (int rack = 0; rack <= 12; rack++) {
                if (throughWith(rack, settings[3]) <= minute) {
                    return rack;
                }
            }
            return NONE;
        }

        int water(int what) {
            if (!either(what)) {
                return no(-2);
            }
            int[] best = {NONE, NEVER};
            for (int bits = 0; bits < 256; bits++) {
                TreeSet<Integer> places = new TreeSet<>();
                for (int p = 0; p < 8; p++) {
                    if ((bits >> p & 1) == 1) {
                        places.add(p);
                    }
                }
                if (!places.contains(0) && (places.isEmpty() || places.last() < order.size())) {
                    int through = through(order, places);
                    if (through < best[1]) {
                        best[0] = bits;
                        best[1] = through;
                    }
                }
            }
            return best[what];
        }

        int cloths() {
            int cloths = 1;
            while (throughWith(settings[0], cloths) != throughWith(settings[0], 3)) {
                cloths++;
            }
            return cloths;
        }

        int changed() {
            if (!mayBe(order, fresh)) {
                return no(-3);
            }
            int best = go().through;
            int answer = NONE;
            for (int i = 0; i < order.size(); i++) {
                for (int j = i + 1; j < order.size(); j++) {
                    List<Integer> other = new ArrayList<>(order);
                    Collections.swap(other, i, j);
                    int through = through(other, fresh);
                    if (through < best) {
                        best = through;
                        answer = 10 * i + j;
                    }
                }
            }
            return answer;
        }

        int where(int thing) {
            if (!isThing(thing) || order.contains(thing)) {
                return no(-1);
            }
            int best = NEVER;
            int answer = NONE;
            for (int q = 0; q <= order.size(); q++) {
                List<Integer> other = new ArrayList<>(order);
                other.add(q, thing);
                TreeSet<Integer> places = new TreeSet<>();
                for (int p : fresh) {
                    places.add(p < q ? p : p + 1);
                }
                int through = through(other, places);
                if (through < best) {
                    best = through;
                    answer = q;
                }
            }
            return answer;
        }

        int either() {
            int sum = 0;
            int longest = 0;
            for (int k : all()) {
                sum += both(k);
                longest = Math.max(longest, both(k));
            }
            return Math.max(longest, sum - sum / 2);
        }

        int alone(int what) {
            if (!either(what)) {
                return no(-2);
            }
            if (things.isEmpty()) {
                return no(-3);
            }
            int[] best = {NONE, NEVER};
            for (int bits = 1; bits < 1 << things.size(); bits += 2) {
                int[] hands = new int[2];
                for (int k : all()) {
                    hands[bits >> k & 1] += both(k);
                }
                int longer = Math.max(hands[0], hands[1]);
                if (longer < best[1]) {
                    best = new int[] {bits, longer};
                }
            }
            return best[what];
        }

        int third() {
            int[] washers = {0, 0};
            int dried = 0;
            int last = 0;
            for (int k : order) {
                Arrays.sort(washers);
                washers[0] += wash(k);
                last = Math.max(last, washers[0]);
                if (!drips(k)) {
                    dried = Math.max(dried, washers[0]) + dry(k);
                }
            }
            return Math.max(last, dried);
        }

        int week(int what) {
            if (!either(what)) {
                return no(-2);
            }
            if (row.size() != 7) {
                return no(-3);
            }
            int[] best = {NONE, NEVER};
            for (int bits = 1; bits < 128; bits += 2) {
                int[] sums = new int[2];
                for (int d = 0; d < 7; d++) {
                    sums[bits >> d & 1] += row.get(d);
                }
                if (Math.abs(sums[0] - sums[1]) < best[1]) {
                    best = new int[] {bits, Math.abs(sums[0] - sums[1])};
                }
            }
            return best[what];
        }

        List<Integer> byRule(int rule) {
            List<Integer> order = all();
            Comparator<Integer> grease = Comparator.comparingInt(k -> things.get(k)[2]);
            Comparator<Integer> pans = Comparator.comparingInt(k -> things.get(k)[0] == 3 ? 1 : 0);
            Comparator<Integer> wash = Comparator.comparingInt(this::wash);
            Comparator<Integer> dry = Comparator.comparingInt(this::dry);
            List<Comparator<Integer>> rules = List.of(Comparator.naturalOrder(), wash.reversed(), wash, dry.reversed(), grease,
                    pans.thenComparing(grease));
            order.sort(rules.get(rule));
            return order;
        }

        int rule(int rule, int what) {
            if (rule < 0 || rule > 5 || !either(what)) {
                return no(-2);
            }
            List<Integer> order = byRule(rule);
            int through = through(order, new TreeSet<>());
            return what == 0 ? digits(order) : through == NEVER ? NONE : through;
        }

        int best() {
            int best = NEVER;
            int answer = NONE;
            for (int rule = 0; rule < 6; rule++) {
                int through = through(byRule(rule), new TreeSet<>());
                if (through < best) {
                    best = through;
                    answer = rule;
                }
            }
            return answer;
        }

        int fits(int minute, int bits, int what) {
            if (minute < 0 || bits < 0) {
                return no(-4);
            }
            if (minute > 999 || bits >= 1 << things.size()) {
                return no(-6);
            }
            if (!either(what)) {
                return no(-2);
            }
            if (!canTurn()) {
                return no(-3);
            }
            List<Integer> fitting = new ArrayList<>();
            everyOrder(new ArrayList<>(), o -> {
                if (mayBe(o, new TreeSet<>()) && wetAt(go(o, new TreeSet<>(), settings, 0), o, minute) == bits) {
                    fitting.add(digits(o));
                }
            });
            return what == 0 ? fitting.size() : fitting.isEmpty() ? NONE : fitting.get(0);
        }

        int row(int v) {
            if (v < 0) {
                return no(-4);
            }
            if (v > 99 || row.size() == 12) {
                return no(-6);
            }
            row.add(v);
            return row.size();
        }

        int judge() {
            Gone gone = go();
            int answer = NONE;
            for (int i = row.size() - 1; i >= 0; i--) {
                answer = i >= order.size() || gone.when[i][4] != row.get(i) ? i : answer;
            }
            row.clear();
            return answer;
        }

        int drop() {
            int had = row.size();
            row.clear();
            return had;
        }

        int seeds(int n, int z, int what) {
            if (n < 1) {
                return no(-4);
            }
            if (n > 20) {
                return no(-6);
            }
            if (!either(what)) {
                return no(-2);
            }
            if (things.isEmpty()) {
                return no(-3);
            }
            int[] answers = new int[2];
            for (int i = 0; i < n; i++) {
                List<Integer> left = all();
                List<Integer> drawn = new ArrayList<>();
                while (!left.isEmpty()) {
                    z = z * 1103515245 + 12345;
                    drawn.add(left.remove(((z & 0x7fffffff) >> 16) % left.size()));
                }
                int through = through(drawn, new TreeSet<>());
                if (through != NEVER) {
                    answers[0]++;
                    answers[1] += through;
                }
            }
            return answers[what];
        }

        int undo() {
            if (undos.isEmpty()) {
                return no(-3);
            }
            Saved saved = undos.pop();
            order = saved.order;
            fresh = saved.fresh;
            return undos.size();
        }

        int tomorrow(int minute, int what) {
            if (minute < 0) {
                return no(-4);
            }
            if (minute > 999) {
                return no(-6);
            }
            if (!either(what)) {
                return no(-2);
            }
            int[] best = {NONE, NEVER};
            for (int bits = 0; bits < 256; bits++) {
                List<Integer> rest = new ArrayList<>();
                TreeSet<Integer> places = new TreeSet<>();
                int out = bits;
                for (int p = 0; p < order.size(); p++) {
                    if ((bits >> order.get(p) & 1) == 1) {
                        out &= ~(1 << order.get(p));
                        continue;
                    }
                    if (fresh.contains(p)) {
                        places.add(rest.size());
                    }
                    rest.add(order.get(p));
                }
                places.remove(0);
                if (out == 0 && through(rest, places) <= minute && Integer.bitCount(bits) < best[1]) {
                    best = new int[] {bits, Integer.bitCount(bits)};
                }
            }
            return best[what];
        }

        int stopped(int bits, int what) {
            if (bits < 0) {
                return no(-4);
            }
            if (bits >= 1 << things.size()) {
                return no(-6);
            }
            if (!either(what)) {
                return no(-2);
            }
            Gone gone = go();
            List<Integer> minutes = new ArrayList<>();
            for (int minute = 0; minute < 1000; minute++) {
                if (wetAt(gone, order, minute) == bits) {
                    minutes.add(minute);
                }
            }
            return what == 1 ? minutes.size() : minutes.isEmpty() ? NONE : minutes.get(0);
        }

        /** What the one who takes next has less than the other in the end. */
        int lessOf(List<Integer> left, Map<List<Integer>, Integer> known) {
            if (left.isEmpty()) {
                return 0;
            }
            if (!known.containsKey(left)) {
                int best = -NEVER;
                for (int k : left) {
                    best = Math.max(best, lessBy(k, left, known));
                }
                known.put(left, best);
            }
            return known.get(left);
        }

        int lessBy(int thing, List<Integer> left, Map<List<Integer>, Integer> known) {
            List<Integer> rest = new ArrayList<>(left);
            rest.remove((Integer) thing);
            return -both(thing) - lessOf(rest, known);
        }

        int picked(int what) {
            if (!either(what)) {
                return 1000000000 - no(-2);
            }
            Map<List<Integer>, Integer> known = new HashMap<>();
            int less = lessOf(all(), known);
            if (what == 0) {
                return less;
            }
            for (int k : all()) {
                if (lessBy(k, all(), known) == less) {
                    return k;
                }
            }
            return NONE;
        }

        int away(Gone gone, List<Integer> order) {
            int away = 0;
            for (int p = 0; p < order.size(); p++) {
                away = Math.max(away, gone.when[p][4]) + row.get(order.get(p));
            }
            return away;
        }

        int steps(int what) {
            if (what < 0 || what > 2) {
                return no(-2);
            }
            if (row.size() != things.size() || what > 0 && !canTurn()) {
                return no(-3);
            }
            if (what == 0) {
                return away(go(), order);
            }
            int[] best = {0, NEVER, NONE};
            everyOrder(new ArrayList<>(), o -> {
                if (mayBe(o, new TreeSet<>())) {
                    int away = away(go(o, new TreeSet<>(), settings, 0), o);
                    if (away < best[1]) {
                        best[1] = away;
                        best[2] = digits(o);
                    }
                }
            });
            return best[what];
        }

        int later(int what) {
            if (!either(what)) {
                return no(-2);
            }
            int[] best = {0, NEVER};
            for (int start = 0; start <= 60; start++) {
                int howLong = order.isEmpty() ? 0 : go(order, fresh, settings, start).through - start;
                if (howLong < best[1]) {
                    best = new int[] {start, howLong};
                }
            }
            return best[what];
        }

        int dear(int minute, int a, int b) {
            if (minute < 0 || a < 0 || b < 0) {
                return no(-4);
            }
            if (minute > 999 || a > 99 || b > 99) {
                return no(-6);
            }
            int best = NEVER;
            int answer = NONE;
            for (int rack = 0; rack <= 12; rack++) {
                for (int cloths = 1; cloths <= 3; cloths++) {
                    if (throughWith(rack, cloths) <= minute && rack * a + cloths * b < best) {
                        best = rack * a + cloths * b;
                        answer = rack * 10 + cloths;
                    }
                }
            }
            return answer;
        }

        int over(int s, int h, int what) {
            if (s < -10 || h < -10) {
                return no(-4);
            }
            if (s > 10 || h > 10) {
                return no(-6);
            }
            if (!either(what)) {
                return no(-2);
            }
            int[] best = {NONE, handsThrough(order, 99, 0, 0)};
            for (int p = 1; p < order.size(); p++) {
                int through = handsThrough(order, p, s, h);
                if (through < best[1]) {
                    best = new int[] {p, through};
                }
            }
            return best[0] == NONE ? NONE : best[what];
        }

        int image() {
            keptThings = new ArrayList<>(things);
            keptOrder = new Saved(order, fresh);
            keptSettings = settings.clone();
            return things.size();
        }

        int restore() {
            if (keptThings == null) {
                return no(-3);
            }
            things = new ArrayList<>(keptThings);
            order = new ArrayList<>(keptOrder.order);
            fresh = new TreeSet<>(keptOrder.fresh);
            settings = keptSettings.clone();
            undos.clear();
            return things.size();
        }

        int count(int what) {
            int wash = 0;
            int dry = 0;
            for (int[] t : things) {
                wash += t[4];
                dry += t[5];
            }
            int[] sizes = {things.size(), order.size(), fresh.size(), wash, dry, text.length(), row.size(), undos.size()};
            if (what >= 0 && what < 8) {
                return sizes[what];
            }
            if (what >= 11 && what <= 16) {
                return refusals[what - 10];
            }
            return what >= 20 && what <= 24 ? settings[what - 20] : NONE;
        }
    }
}
