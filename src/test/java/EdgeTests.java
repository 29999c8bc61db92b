import java.io.IOException;
import java.nio.charset.StandardCharsets;
import java.nio.file.Files;
import java.nio.file.Path;
import java.util.Map;
import java.util.TreeMap;
import java.util.regex.Matcher;
import java.util.regex.Pattern;

/**
 * Each sentence of the document that names an edge (too small, too large, empty, full, a wrap-around,
 * none, a refusal) is quoted here, and behind it stands the test of it. At the end it is looked whether
 * the document has such a sentence that is not quoted.
 */
public final class EdgeTests {
    private static final Path DOC = Path.of("../shared/DOC.md");
    /** The part of the document ahead of the promises is told by this number. */
    private static final int TERMS = 0;
    private static final int PROMISES = 45;
    private static final Pattern EDGE = Pattern.compile(
            "-\\d|\\d \\.\\. -?\\d|\\b(at most|at least|At least|least|most|none|no|not|too|without|all|empty|cut|wrapping|0)\\b");
    private static final int LOW = Integer.MIN_VALUE;
    private static final int HIGH = Integer.MAX_VALUE;

    /** Washed in 1, dried in 1. */
    private static final String QUICK = "t00010101;";
    private static final String EIGHT = QUICK.repeat(8);
    /** Washed in 1, dried in 10; washed in 10, dried in 1. */
    private static final String SHORT_LONG = "t00010110;t00011001;";
    private static final String GLASS = "t10010101;";
    private static final String PAN = "t30010101;";

    private static final Map<Integer, String> LEFT = new TreeMap<>();
    private static int wrong = 0;
    private static int section = TERMS;
    private static String sentence = "";

    public static void main(String[] args) throws IOException {
        readDocument();
        terms();
        evenings();
        partTwo();
        partThree();
        refusals();
        promises();
        lookForUnquoted();
        System.out.println(wrong == 0 ? "all edges hold" : wrong + " faults at edges");
        if (wrong != 0) {
            System.exit(1);
        }
    }

    private static void terms() {
        life();
        settings();
        things();
        washing();
        drying();
        order();
        letters();
        statements();
        faultsOfShape();
        faultsOfMeaning();
    }

    private static void promises() {
        promisesOfTelling();
        promisesOfTheOrder();
        promisesOfTheEvening();
        promisesOfBetterOnes();
        promisesOfHands();
        promisesOfRowAndSeeds();
        promisesOfPartThree();
        promisesOfKeeping();
    }

    // ---- what the tests share

    private static void fault(String text) {
        wrong++;
        System.out.println((section == TERMS ? "terms" : "promise " + section) + ", \"" + sentence + "\": " + text);
    }

    private static void due(String call, int got, int want) {
        if (got != want) {
            fault(call + " answered " + got + ", due is " + want);
        }
    }

    private static int tell(WashAndDry x, String text) {
        for (int i = 0; i < text.length(); i++) {
            x.feed(text.charAt(i));
        }
        return x.kitchen();
    }

    private static int told(String text) {
        return tell(new WashAndDry(), text);
    }

    /** A new object with a kitchen, told in as many parts as it takes. */
    private static WashAndDry with(String text) {
        WashAndDry x = new WashAndDry();
        String left = text;
        while (!left.isEmpty()) {
            int till = left.lastIndexOf(';', 95) + 1;
            if (tell(x, left.substring(0, till)) < 1) {
                fault("not a kitchen: " + text);
                return x;
            }
            left = left.substring(till);
        }
        return x;
    }

    private static WashAndDry row(WashAndDry x, int... numbers) {
        for (int v : numbers) {
            x.row(v);
        }
        return x;
    }

    private static void readDocument() throws IOException {
        String text = Files.readString(DOC, StandardCharsets.UTF_8);
        String told = text.substring(text.indexOf("An object is used"), text.indexOf("## The public face"))
                + text.substring(text.indexOf("## Terms"), text.indexOf("## Promise 1:"));
        LEFT.put(TERMS, oneLine(told));
        for (int n = 1; n <= PROMISES; n++) {
            int from = text.indexOf("## Promise " + n + ":");
            int till = text.indexOf("\n## ", from);
            // The signature stands between two signs of code, and is no sentence.
            String own = text.substring(text.indexOf('\n', from), till).replaceFirst("`[^`]*`:", "");
            LEFT.put(n, oneLine(own));
        }
    }

    private static String oneLine(String text) {
        return text.replaceAll("\\s+", " ");
    }

    /** What is tested next: a sentence as the document has it. */
    private static void says(int where, String quoted) {
        section = where;
        sentence = quoted;
        String left = LEFT.get(where);
        int at = left.indexOf(quoted);
        if (at < 0) {
            fault("the document has no such sentence, or it is quoted twice");
            return;
        }
        LEFT.put(where, left.substring(0, at) + " | " + left.substring(at + quoted.length()));
    }

    private static void lookForUnquoted() {
        for (int where : LEFT.keySet()) {
            section = where;
            for (String left : LEFT.get(where).split("\\|")) {
                sentence = left.trim();
                Matcher edge = EDGE.matcher(left);
                if (edge.find()) {
                    fault("names an edge (" + edge.group() + ") and has no test");
                }
            }
        }
    }

    // ---- What it is, Terms: what there is

    private static void life() {
        says(TERMS, "An object is used for at most 512 calls after it has been made; what later calls answer is free.");
        WashAndDry x = with(SHORT_LONG + "o01;");
        for (int calls = 26; calls < 511; calls++) {
            x.put(2);
        }
        due("through(), the 512th call", x.through(), 12);
        WashAndDry busy = with(QUICK.repeat(6) + "o012345;");
        for (int calls = 70; calls < 510; calls++) {
            busy.fresh(1 + calls % 5);
        }
        due("soonest(1), the 511th call", busy.soonest(1), 543210);
        due("undo(), the 512th call", busy.undo(), 7);
    }

    private static void settings() {
        says(TERMS, "0 RACK (0 .. 12 of room; 6)");
        settingBetween(0, 0, 12, 6);
        due("held, RACK 0: when(1, 2)", with("t00010110;t00010110;o01;s0=0;").when(1, 2), 11);
        due("lying, RACK 1: when(1, 2)", with("t00010110;t00010110;o01;s0=1;").when(1, 2), 2);
        // Thing 1 is taken at 21: till then 1 to 4 fill the rack, and 5 waits.
        WashAndDry full = with("t00010120;t00030100;t00030100;t00030100;t00030100;t00010100;o012345;s0=12;");
        due("12 of room are full: when(4, 2)", full.when(4, 2), 5);
        due("a 13th of room: when(5, 2)", full.when(5, 2), 21);

        says(TERMS, "1 NEW (0 .. 9 MINUTES; 2)");
        settingBetween(1, 0, 9, 2);
        WashAndDry greasy = with("t00910100;t00010100;o01;n1;");
        due("NEW 2: when(1, 0)", greasy.when(1, 0), 3);
        greasy.set(1, 0);
        due("NEW 0: when(1, 0)", greasy.when(1, 0), 1);
        due("NEW 0, but clean: when(1, 1)", greasy.when(1, 1), 2);
        greasy.set(1, 9);
        due("NEW 9: when(1, 0)", greasy.when(1, 0), 10);

        says(TERMS, "2 FULL (1 .. 30 things that a cloth dries; 5)");
        settingBetween(2, 1, 30, 5);
        WashAndDry eight = with(EIGHT + "o01234567;");
        due("FULL 5 of 8: waits(3)", eight.waits(3), 1);
        int[] full30 = {8, 4, 2, 2, 1, 1, 1, 1, 0};
        for (int v = 1; v <= 9; v++) {
            eight.set(2, v);
            due("FULL " + v + " of 8: waits(3)", eight.waits(3), full30[v - 1]);
        }
        eight.set(2, 30);
        due("FULL 30 of 8: waits(3)", eight.waits(3), 0);

        says(TERMS, "3 CLOTHS (1 .. 3; 2)");
        settingBetween(3, 1, 3, 2);
        WashAndDry three = with(QUICK.repeat(3) + "o012;s2=1;s4=60;");
        due("2 CLOTHS: when(2, 3)", three.when(2, 3), 62);
        three.set(3, 1);
        due("1 CLOTH: when(1, 3)", three.when(1, 3), 62);
        due("1 CLOTH: when(2, 3)", three.when(2, 3), 123);
        three.set(3, 3);
        due("3 CLOTHS: when(2, 3)", three.when(2, 3), 3);

        says(TERMS, "4 STOVE (1 .. 60 MINUTES till a full one is dry; 20)");
        settingBetween(4, 1, 60, 20);
        WashAndDry stove = with(QUICK.repeat(2) + "o01;s2=1;s3=1;");
        due("STOVE 20: when(1, 3)", stove.when(1, 3), 22);
        stove.set(4, 1);
        due("STOVE 1: when(1, 3)", stove.when(1, 3), 3);
        stove.set(4, 60);
        due("STOVE 60: when(1, 3)", stove.when(1, 3), 62);
    }

    /** The setting is told by call and by letters: the first, the least and the greatest, and beyond them. */
    private static void settingBetween(int setting, int least, int most, int first) {
        due("count(2" + setting + ") at first", new WashAndDry().count(20 + setting), first);
        for (int v = 0; v <= 99; v++) {
            boolean right = v >= least && v <= most;
            WashAndDry x = new WashAndDry();
            due("kitchen() of s" + setting + "=" + v, tell(x, "s" + setting + "=" + v + ";"), right ? 1 : -2000);
            due("count() then", x.count(20 + setting), right ? v : first);
            WashAndDry y = new WashAndDry();
            due("set(" + setting + ", " + v + ")", y.set(setting, v), right ? first : v < least ? -4 : -6);
            due("count() then", y.count(20 + setting), right ? v : first);
        }
    }

    private static void things() {
        says(TERMS, "THINGS 0 .. 7 as they come to be (8 at most)");
        WashAndDry x = new WashAndDry();
        for (int thing = 0; thing < 8; thing++) {
            due("thing " + thing + " ahead of its coming", x.thing(thing, 4), -1);
            due("kitchen() of a thing more", tell(x, "t00010" + (thing + 1) + "00;"), 1);
            due("its WASH", x.thing(thing, 4), thing + 1);
        }
        due("kitchen() of a 9th", tell(x, QUICK), -2000);
        due("things then", x.count(0), 8);
        due("the 8th", x.thing(7, 4), 8);
        due("thing(8, 4)", x.thing(8, 4), -1);
    }

    private static void partBetween(int part, int least, int most) {
        String[] words = {"KIND", "FIGURE", "GREASE", "ROOM", "WASH", "DRY"};
        int[] from = {1, 2, 3, 4, 5, 7};
        boolean two = part > 3;
        for (int v = 0; v <= (two ? 99 : 9); v++) {
            StringBuilder text = new StringBuilder("t00010101;");
            text.replace(from[part], from[part] + (two ? 2 : 1), (two && v < 10 ? "0" : "") + v);
            boolean right = v >= least && v <= most;
            WashAndDry x = new WashAndDry();
            due("kitchen() of " + words[part] + " " + v, tell(x, text.toString()), right ? 1 : -2000);
            due("things then", x.count(0), right ? 1 : 0);
            due(words[part] + " then", x.thing(0, part), right ? v : -1);
        }
    }

    private static void washing() {
        says(TERMS, "0 THING; 1 GLASS under THING; 2 POT under THING; 3 PAN under POT; 4 FORK under THING; 5 SOAKED under POT: "
                + "a FIGURE (0 .. 9), WASH (1 .. 20 MINUTES), DRY (0 .. 20 MINUTES), GREASE (0 .. 9), ROOM (1 .. 3)");
        int[] least = {0, 0, 0, 1, 1, 0};
        int[] most = {5, 9, 9, 3, 20, 20};
        for (int part = 0; part < 6; part++) {
            partBetween(part, least[part], most[part]);
        }

        says(TERMS, "takes: THING WASH, and g by 5, cut; GLASS WASH; POT a THING's and FIGURE; PAN a POT's and g by 2, cut; "
                + "FORK half of a THING's, cut; SOAKED a POT's less m by 10, cut; 1 at least behind each");
        WashAndDry x = with("t03010300;t13010300;t23010300;t33010300;t43010300;t53010300;");
        int[][] byGrease = {
            {0, 3, 3, 6, 6, 1, 6}, {1, 3, 3, 6, 6, 1, 6}, {2, 3, 3, 6, 7, 1, 6}, {4, 3, 3, 6, 8, 1, 6}, {5, 4, 3, 7, 9, 2, 7},
            {9, 4, 3, 7, 11, 2, 7}, {10, 5, 3, 8, 13, 2, 8}, {99, 22, 3, 25, 74, 11, 25}};
        for (int[] dues : byGrease) {
            for (int thing = 0; thing < 6; thing++) {
                due("washing(" + thing + ", 0, " + dues[0] + ")", x.washing(thing, 0, dues[0]), dues[thing + 1]);
                due("washing(" + thing + ", 9, " + dues[0] + ")", x.washing(thing, 9, dues[0]), dues[thing + 1]);
            }
        }
        int[][] soaked = {{9, 6}, {10, 5}, {19, 5}, {20, 4}, {49, 2}, {50, 1}, {59, 1}, {60, 1}, {69, 1}, {70, 1}, {999, 1}};
        for (int[] dues : soaked) {
            due("washing(5, " + dues[0] + ", 0)", x.washing(5, dues[0], 0), dues[1]);
            due("washing(2, " + dues[0] + ", 0)", x.washing(2, dues[0], 0), 6);
        }
        WashAndDry little = with("t40010100;t50010100;t40010200;t10010100;");
        due("a FORK, half of 1: washing(0, 0, 0)", little.washing(0, 0, 0), 1);
        due("half of 2: washing(0, 0, 5)", little.washing(0, 0, 5), 1);
        due("half of 3: washing(0, 0, 10)", little.washing(0, 0, 10), 1);
        due("half of 4: washing(0, 0, 15)", little.washing(0, 0, 15), 2);
        due("half of 2: washing(2, 0, 0)", little.washing(2, 0, 0), 1);
        due("a SOAKED one of 1: washing(1, 0, 0)", little.washing(1, 0, 0), 1);
        due("0: washing(1, 10, 0)", little.washing(1, 10, 0), 1);
        due("far below 0, and greasy: washing(1, 999, 99)", little.washing(1, 999, 99), 1);
        due("1 of a POT's 1 and 1: washing(1, 19, 5)", little.washing(1, 19, 5), 1);
        WashAndDry most20 = with("t09012000;t19012000;t29012000;t39012000;t49012000;t59012000;");
        int[] greatest = {39, 20, 48, 97, 19, 48};
        for (int thing = 0; thing < 6; thing++) {
            due("the greatest washing(" + thing + ", 0, 99)", most20.washing(thing, 0, 99), greatest[thing]);
        }
    }

    private static void drying() {
        says(TERMS, "THING DRY; GLASS 1 more; all others as a THING");
        int[] glassMore = {0, 1, 0, 0, 0, 0};
        for (int kind = 0; kind <= 5; kind++) {
            due("DRYING of KIND " + kind + ", DRY 0", with("t" + kind + "9010100;").thing(0, 6), glassMore[kind]);
            due("DRYING of KIND " + kind + ", DRY 20", with("t" + kind + "9010120;").thing(0, 6), 20 + glassMore[kind]);
        }

        says(TERMS, "POTS (and all KINDS under them) with DRY 0 DRIP: they need nobody, and are dry FIGURE MINUTES behind being set down");
        int[] drips = {0, 0, 1, 1, 0, 1};
        for (int kind = 0; kind <= 5; kind++) {
            due("KIND " + kind + ", DRY 0 drips", with("t" + kind + "9010100;").thing(0, 7), drips[kind]);
            due("KIND " + kind + ", DRY 1 drips", with("t" + kind + "9010101;").thing(0, 7), 0);
        }
        WashAndDry nobody = with("t00010120;t29010100;o01;");
        due("she dries 0 till 21, 1 needs nobody: when(1, 4)", nobody.when(1, 4), 20);
        due("FIGURE 0, dry at once: when(0, 4)", with("t20010100;o0;").when(0, 4), 1);
        due("FIGURE 1: when(0, 4)", with("t21010100;o0;").when(0, 4), 3);
        due("its cloth is none of hers: waits(3)", with("t20010100;t00010101;o01;s2=2;").waits(3), 0);
    }

    private static void order() {
        says(TERMS, "none twice; none at first");
        WashAndDry x = new WashAndDry();
        due("at first count(1)", x.count(1), 0);
        tell(x, QUICK.repeat(2));
        due("things alone make no order: count(1)", x.count(1), 0);
        due("put(0)", x.put(0), 1);
        due("put(0) twice", x.put(0), -1);
        due("in the order then", x.count(1), 1);
        due("kitchen() of one twice", tell(x, "o00;"), -2000);
        due("kitchen() of one told in two statements", tell(x, "o0;o0;"), 2);

        says(TERMS, "(places of it, 1 and more, ahead of which there is new water; none at first)");
        WashAndDry y = with(EIGHT + "o01234567;");
        due("at first count(2)", y.count(2), 0);
        due("place 0", y.fresh(0), -1);
        for (int place = 1; place < 8; place++) {
            due("place " + place, y.fresh(place), 1);
        }
        due("place 8", y.fresh(8), -1);
        due("NEW places then", y.count(2), 7);
        due("place(0, 1)", y.place(0, 1), 0);
        due("a longer order has none", tell(y, "o0123;"), 1);
        due("NEW places then", y.count(2), 0);
    }

    // ---- the order gone through

    private static void evenings() {
        goneThrough();
        rackRoom();
        heldOut();
        taken();
        cloths();
        mayBe();
    }

    private static void goneThrough() {
        says(TERMS, "both begin at MINUTE 0, the water has GREASE 0");
        WashAndDry x = with("t30910500;t30910500;o01;");
        due("when(0, 0)", x.when(0, 0), 0);
        due("in GREASE 0: when(0, 1)", x.when(0, 1), 5);
        due("in GREASE 9: when(1, 1)", x.when(1, 1), 15);
        due("she waits from 0 on: waits(1)", with("t00010901;o0;").waits(1), 9);

        says(TERMS, "ahead of a NEW place NEW MINUTES go by, the water has GREASE 0 then");
        x.fresh(1);
        due("when(0, 1)", x.when(0, 1), 5);
        due("behind NEW MINUTES: when(1, 0)", x.when(1, 0), 7);
        due("in GREASE 0: when(1, 1)", x.when(1, 1), 12);
        due("its GREASE alone: waits(2)", x.waits(2), 9);
        WashAndDry soaked = with("t00010900;t50010900;o01;");
        due("soaked till 9: when(1, 1)", soaked.when(1, 1), 18);
        soaked.fresh(1);
        due("till 11: when(1, 1)", soaked.when(1, 1), 19);
    }

    private static void rackRoom() {
        says(TERMS, "He sets it DOWN as soon as there is ROOM for it in the RACK beside all that lie there (those that are not TAKEN, "
                + "or drip yet); till then he waits; then he goes on with the next.");
        // She dries 0 from 1 to 21; 1 and 2 take 3 of room each; 3 takes 1.
        WashAndDry x = with("t00010120;t00030101;t00030101;t00010101;o0123;");
        due("6 of 6: when(2, 2)", x.when(2, 2), 3);
        due("7 of 6: when(3, 2)", x.when(3, 2), 21);
        due("he waits: waits(0)", x.waits(0), 17);
        x.set(0, 7);
        due("7 of 7: when(3, 2)", x.when(3, 2), 4);
        x.set(0, 5);
        due("6 of 5: when(2, 2)", x.when(2, 2), 21);
        due("then he goes on: when(3, 0)", x.when(3, 0), 21);
        WashAndDry two = with("t00010120;t00030105;t00020101;t00020101;o0123;s0=3;");
        due("2 lies alone from 21 to 26: when(2, 2)", two.when(2, 2), 21);
        due("no room for 2 beside 2: when(3, 2)", two.when(3, 2), 26);

        says(TERMS, "it leaves the RACK at that MINUTE");
        // 0 is washed in 10, and drips till 19.
        WashAndDry drips = with("t29030100;t00030900;o01;s0=3;");
        due("one that drips leaves at 19: when(1, 2)", drips.when(1, 2), 19);
        due("washed at that minute: when(1, 1)", drips.when(1, 1), 19);
        due("he does not wait: waits(0)", drips.waits(0), 0);
        WashAndDry early = with("t29030100;t00030800;o01;s0=3;");
        due("washed a minute ahead: when(1, 2)", early.when(1, 2), 19);
        due("he waits: waits(0)", early.waits(0), 1);
        // At 19 the first leaves, but the second drips till 21.
        due("one leaves at 19, one stays: when(2, 2)", with("t29010100;t25020100;t00020301;o012;s0=3;").when(2, 2), 21);
        WashAndDry taken = with("t00030101;t00030101;o01;s0=3;");
        due("taken as it is down: when(1, 2)", taken.when(1, 2), 2);
        due("waits(0)", taken.waits(0), 0);
    }

    private static void heldOut() {
        says(TERMS, "What takes more ROOM than RACK has, he holds till it is TAKEN (DOWN as it is TAKEN; one that drips till it is dry).");
        WashAndDry x = with("t00010110;t00020110;o01;");
        x.set(0, 2);
        due("2 of 2 lies: when(1, 2)", x.when(1, 2), 2);
        due("taken: when(1, 3)", x.when(1, 3), 11);
        due("waits(0)", x.waits(0), 0);
        x.set(0, 1);
        due("2 of 1 is held: when(1, 2)", x.when(1, 2), 11);
        due("taken: when(1, 3)", x.when(1, 3), 11);
        due("waits(0)", x.waits(0), 9);
        WashAndDry drips = with("t29030100;t00010101;o01;s0=2;");
        due("held and dripping: when(0, 2)", drips.when(0, 2), 19);
        due("when(0, 3)", drips.when(0, 3), 19);
        due("when(0, 4)", drips.when(0, 4), 19);
        due("he goes on then: when(1, 0)", drips.when(1, 0), 19);
        due("waits(0)", drips.waits(0), 9);
        WashAndDry beside = with("t29010100;t00020101;o01;s0=1;");
        due("the rack is full, one held needs it not: when(1, 2)", beside.when(1, 2), 11);
        WashAndDry none = with("t20010100;o0;s0=0;");
        due("RACK 0, FIGURE 0: when(0, 2)", none.when(0, 2), 1);
    }

    private static void taken() {
        says(TERMS, "SHE takes those that do not drip, in their ORDER: one is TAKEN as it is DOWN (or could be held out), she is free, "
                + "and her cloth is dry");
        WashAndDry x = with("t00010102;t00010101;t00010301;o012;s2=2;s3=1;s4=5;");
        due("as it is down: when(0, 3)", x.when(0, 3), 1);
        due("as she is free: when(1, 3)", x.when(1, 3), 3);
        due("as her cloth is dry: when(2, 3)", x.when(2, 3), 9);
        x.set(0, 0);
        due("held out: when(0, 3)", x.when(0, 3), 1);
        due("held out, she is free: when(1, 3)", x.when(1, 3), 3);
        due("held out, her cloth is dry: when(2, 3)", x.when(2, 3), 9);
        due("free at the minute it is down: when(1, 3)", with("t00010101;t00010101;o01;").when(1, 3), 2);

        says(TERMS, "it is DRY behind DRYING, she is free then");
        due("DRYING 0: when(0, 4)", with("t00010100;o0;").when(0, 4), 1);
        WashAndDry nothing = with("t00010120;t00010100;t00010100;o012;");
        due("two of DRYING 0: when(2, 4)", nothing.when(2, 4), 21);
    }

    private static void cloths() {
        says(TERMS, "THROUGH: the MINUTE at which all are DRY.");
        due("none: through()", with(QUICK).through(), 0);
        due("the last drips: through()", with(QUICK + "t29010100;o01;").through(), 20);
        due("one ahead drips longest: through()", with("t29010100;t00010101;o01;").through(), 19);
        due("she is last: through()", with("t00010120;t29010100;o01;").through(), 21);

        says(TERMS, "Her CLOTH (0 at first): when it has dried FULL THINGS, it is by the STOVE from that MINUTE on, "
                + "and she has that which is dry first, of several the least.");
        WashAndDry x = with(QUICK.repeat(5) + "o01234;s2=2;s3=1;s4=3;");
        due("not full by one: when(1, 3)", x.when(1, 3), 2);
        due("full by two, dry at 6: when(2, 3)", x.when(2, 3), 6);
        due("not full by three: when(3, 3)", x.when(3, 3), 7);
        due("full by four, dry at 11: when(4, 3)", x.when(4, 3), 11);
        due("waits(3)", x.waits(3), 2);
        due("full behind the last: waits(3)", with(QUICK.repeat(2) + "o01;s2=2;").waits(3), 1);
        due("not full yet: waits(3)", with(QUICK.repeat(2) + "o0;s2=2;").waits(3), 0);
        // 0 is by the stove from 2 (dry 12), 1 from 3 (13), 2 from 4 (14): 0 and 1 and 2 again, and so on.
        WashAndDry round = with(EIGHT + "o01234567;s2=1;s3=3;s4=10;");
        int[] minutes = {1, 2, 3, 12, 13, 14, 23, 24};
        for (int place = 0; place < 8; place++) {
            due("the cloths go round: when(" + place + ", 3)", round.when(place, 3), minutes[place]);
        }
    }

    private static void mayBe() {
        says(TERMS, "no GLASS behind a PAN without new water between (no place above 0 need be NEW otherwise)");
        String all = GLASS + PAN + QUICK + "t29010100;t40010101;t59010100;";
        due("GLASS alone", with(all + "o0;").may(), 1);
        due("PAN alone", with(all + "o1;").may(), 1);
        due("GLASS ahead", with(all + "o01;").may(), 1);
        due("GLASS behind", with(all + "o10;").may(), 0);
        due("new water at the GLASS", with(all + "o10;n1;").may(), 1);
        due("GLASS far behind", with(all + "o123450;").may(), 0);
        for (int place = 1; place <= 5; place++) {
            due("new water at place " + place, with(all + "o123450;n" + place + ";").may(), 1);
        }
        due("new water at the PAN itself", with(all + "o2103;n1;").may(), 0);
        due("new water behind the GLASS", with(all + "o2103;n3;").may(), 0);
        due("all but a PAN ahead of a GLASS", with(all + "o234501;").may(), 1);
        due("a second PAN behind the new water", with(all + PAN + "o1260;n1;").may(), 0);
    }

    // ---- kitchens told in letters

    private static void letters() {
        says(TERMS, "told in letters, one by one (96 at most)");
        String full = EIGHT + "o01234567;n1;n2;";
        due("letters", full.length(), 96);
        WashAndDry x = new WashAndDry();
        for (int i = 0; i < 96; i++) {
            due("feed() of letter " + i, x.feed(full.charAt(i)), i + 1);
        }
        due("feed() of a 97th", x.feed(';'), -6);
        due("kitchen() of 96", x.kitchen(), 11);
        due("THINGS then", x.count(0), 8);
        due("NEW places then", x.count(2), 2);
        due("a fault in the 96th", told("o;".repeat(47) + "oo"), -1095);
        due("one lacks behind the 96th", told("o;".repeat(47) + "n1"), -1096);
        due("the last STATEMENT", told(QUICK.repeat(3) + "o012;" + "n1;".repeat(19) + "n3;"), -2092);
    }

    private static void statements() {
        says(TERMS, "\"s\" a SETTING (a digit), \"=\", its number (1 or 2 digits)");
        due("one digit", told("s1=9;"), 1);
        due("two digits", told("s1=09;"), 1);
        due("no digit", told("s1=;"), -1003);
        due("three digits", told("s1=009;"), -1005);
        due("no SETTING", told("s=9;"), -1001);
        due("SETTING of two digits", told("s01=9;"), -1002);
        due("no =", told("s19;"), -1002);
        due("two =", told("s1==9;"), -1003);
        due("below 0", told("s1=-1;"), -1003);

        says(TERMS, "\"t\" KIND, FIGURE, GREASE, ROOM (a digit each), WASH, DRY (2 digits each): a THING more");
        due("8 digits", told(QUICK), 1);
        for (int digits = 0; digits < 8; digits++) {
            due(digits + " digits", told(QUICK.substring(0, 1 + digits) + ";"), -1001 - digits);
        }
        due("9 digits", told("t000101010;"), -1009);

        says(TERMS, "\"o\" THINGS (digits, 0 .. 8 of them): they are the ORDER, no NEW places");
        due("0 of them", told("o;"), 1);
        due("8 of them", told(EIGHT + "o76543210;"), 9);
        due("9 of them", told("o012345670;"), -1009);
        WashAndDry x = with(QUICK.repeat(3) + "o012;n1;n2;");
        due("in another order", tell(x, "o20;"), 1);
        due("count(1)", x.count(1), 2);
        due("no NEW places: count(2)", x.count(2), 0);
        due("the empty order", tell(x, "o;"), 1);
        due("count(1)", x.count(1), 0);
        due("in the very order that is", tell(with(QUICK.repeat(2) + "o01;n1;"), "o01;n1;"), 2);

        says(TERMS, "\"n\" a place (a digit): it is NEW, or, told again, not");
        WashAndDry y = with(QUICK.repeat(3) + "o012;n2;");
        due("NEW: place(2, 1)", y.place(2, 1), 1);
        due("told again", tell(y, "n2;"), 1);
        due("not NEW: place(2, 1)", y.place(2, 1), 0);
        due("told three times", tell(y, "n1;n1;n1;"), 3);
        due("NEW: place(1, 1)", y.place(1, 1), 1);
        due("no digit", told("n;"), -1001);
        due("two digits", told("n01;"), -1002);

        says(TERMS, "At least one STATEMENT.");
        due("none", told(""), -1000);
        due("an empty one", told(";"), -1000);
        due("one", told("o;"), 1);
        due("an empty one behind", told("o;;"), -1002);
    }

    private static void faultsOfShape() {
        says(TERMS, "kind 1 the place of the first letter with which no KITCHEN can go on (the end, if something lacks): -1000 less the place");
        String whole = "s0=12;t00010101;o0;n1;";
        for (int place = 0; place < whole.length(); place++) {
            for (char letter : new char[] {0, ' ', 'x', 'S', '0' - 1, '9' + 1, 127, 128, 255, '-', '+'}) {
                String text = whole.substring(0, place) + letter + whole.substring(place + 1);
                due("kitchen() of letter " + (int) letter + " at " + place, told(text), -1000 - place);
            }
        }
        int[] ends = {6, 16, 19, 22};
        int next = 0;
        for (int size = 0; size <= 18; size++) {
            boolean behindOne = size == ends[next];
            next += behindOne ? 1 : 0;
            due("kitchen() of " + size + " letters", told(whole.substring(0, size)), behindOne ? next : -1000 - size);
        }
        due("a letter that begins none", told("o;a"), -1002);
        due("two faults: the first", told("o;s0x;t0x"), -1004);
    }

    private static void faultsOfMeaning() {
        says(TERMS, "else kind 2 the place of the first letter of the first STATEMENT that, behind all ahead of it in the text, is not as it "
                + "must be (a number out of range, no such SETTING, THING, one twice, no such place of the ORDER, 0 too, no room): "
                + "-2000 less the place");
        due("kind 1 is ahead of kind 2", told("s9=99;t6010"), -1011);
        due("a number out of range", told("s0=12;s0=13;"), -2006);
        due("no such SETTING", told("o;s5=1;"), -2002);
        due("no such SETTING, 0", told("s5=0;"), -2000);
        due("no such SETTING, 0", told("s9=0;"), -2000);
        due("no such THING", told(QUICK + "o1;"), -2010);
        due("no such THING yet", told("o0;" + QUICK), -2000);
        due("one that has come", told(QUICK + "o0;"), 2);
        due("no such THING behind one", told(QUICK + "o09;"), -2010);
        due("one twice", told(QUICK.repeat(2) + "o010;"), -2020);
        due("place 0", told(QUICK.repeat(2) + "o01;n0;"), -2024);
        due("no such place", told(QUICK.repeat(2) + "o01;n2;"), -2024);
        due("place 9", told(QUICK.repeat(2) + "o01;n9;"), -2024);
        due("the last place", told(QUICK.repeat(2) + "o01;n1;"), 4);
        due("no place of no ORDER", told("n1;"), -2000);
        due("no place of a shorter ORDER", told(QUICK.repeat(2) + "o01;o0;n1;"), -2027);
        due("no room", told(EIGHT + QUICK), -2080);
        due("two faults: the first", told("o;o9;s9=9;"), -2002);
        WashAndDry x = with(QUICK.repeat(2) + "o01;");
        due("a place of the ORDER that is", tell(x, "n1;"), 1);

        says(TERMS, "Without FAULT all of it comes, with one nothing.");
        WashAndDry y = with(QUICK + "o0;s0=3;");
        due("a FAULT behind all else", tell(y, "s0=9;" + QUICK + "o10;n1;o2;"), -2022);
        due("RACK", y.count(20), 3);
        due("THINGS", y.count(0), 1);
        due("ORDER", y.count(1), 1);
        due("its THING", y.place(0, 0), 0);
        due("NEW places", y.count(2), 0);
        due("without FAULT", tell(y, "s0=9;" + QUICK + "o10;n1;"), 4);
        due("RACK", y.count(20), 9);
        due("THINGS", y.count(0), 2);
        due("ORDER", y.count(1), 2);
        due("its THING", y.place(0, 0), 1);
        due("NEW places", y.count(2), 1);
        due("a FAULT of shape", tell(y, "s0=5;o;n"), -1008);
        due("RACK", y.count(20), 9);
        due("ORDER", y.count(1), 2);
    }

    // ---- part II

    private static void partTwo() {
        whenAndWet();
        twoHands();
        soonest();
        rackWaterCloths();
        changedAndWhere();
        eitherAndAlone();
        third();
        week();
        rules();
        fits();
        judged();
        seeds();
    }

    private static void whenAndWet() {
        says(TERMS, "TAKEN (of one that drips as it is DRY)");
        WashAndDry drips = with("t25010100;t20010100;o01;");
        due("when(0, 2)", drips.when(0, 2), 6);
        due("when(0, 3)", drips.when(0, 3), 11);
        due("when(0, 4)", drips.when(0, 4), 11);
        due("FIGURE 0: when(1, 3)", drips.when(1, 3), 7);

        says(TERMS, "How long HE waits with things in hand in all, how long SHE waits (free, with THINGS to come, till the last is TAKEN; "
                + "from MINUTE 0 on); GREASE in the water in the end; how often a cloth is full.");
        WashAndDry none = with(QUICK);
        for (int what = 0; what < 4; what++) {
            due("no ORDER: waits(" + what + ")", none.waits(what), 0);
        }
        WashAndDry x = with("t00110402;t00210102;t00310901;t29410100;o0123;s2=3;");
        // She waits 0 .. 4 and 8 .. 14: 0 is dried 4 .. 6, 1 6 .. 8, 2 14 .. 15; then none is to come to her.
        due("waits(1)", x.waits(1), 10);
        due("waits(2)", x.waits(2), 10);
        due("waits(3)", x.waits(3), 1);
        due("he does not wait: waits(0)", x.waits(0), 0);
        due("but what drips, none is to come: waits(1)", with("t29010100;o0;").waits(1), 0);
        x.fresh(3);
        due("new water ahead of the last: waits(2)", x.waits(2), 4);
        due("for her cloth: waits(1)", with(QUICK.repeat(2) + "o01;s2=1;s3=1;").waits(1), 21);
        due("twice in all: waits(0)", with(QUICK + "t00010120;".repeat(3) + "o0123;s0=0;").waits(0), 38);

        says(TERMS, "WET at a MINUTE: THINGS (bits) that are WASHED then and not DRY.");
        WashAndDry wet = with(QUICK + "t00010503;" + "o10;");
        int[] minutes = {4, 5, 6, 7, 8, 9};
        int[] bits = {0, 2, 3, 3, 1, 0};
        for (int i = 0; i < minutes.length; i++) {
            due("wet(" + minutes[i] + ")", wet.wet(minutes[i]), bits[i]);
        }
        due("no ORDER: wet(0)", with(QUICK).wet(0), 0);
        due("DRYING 0 is never WET: wet(1)", with("t00010100;o0;").wet(1), 0);
        due("all eight: wet(8)", with("t00010120;".repeat(8) + "o01234567;s0=12;").wet(8), 255);
        due("dripping ones, too: wet(10)", with("t29010100;o0;").wet(10), 1);
    }

    private static void twoHands() {
        says(TERMS, "TWO HANDS with ROOM enough, clean water, dry cloths (WASHING at GREASE 0, MINUTE 0)");
        String late = "t00910120;t00930120;t00930120;";
        due("RACK 0, FULL 1: hands(1)", with(late + "o0;s0=0;s2=1;s3=1;").hands(1), 61);
        due("GREASE: hands(1)", with("t30911000;t30911000;").hands(1), 20);
        due("soaked from 0: hands(1)", with("t59012000;t59012000;").hands(1), 58);

        says(TERMS, "of all THINGS those first whose WASHING is no longer than their DRYING, by WASHING rising, then all others by DRYING falling "
                + "(of like ones the lesser number ahead; dripping ones DRYING 0): that ORDER (digits, the first the lowest)");
        due("none: hands(0)", new WashAndDry().hands(0), 0);
        due("one: hands(0)", with(QUICK).hands(0), 0);
        due("no longer by none, longer by one: hands(0)", with("t00010605;t00010505;t00010405;").hands(0), 12);
        due("alike in both parts: hands(0)", with("t00010704;t00010203;t00010804;t00010208;").hands(0), 2031);
        due("eight alike: hands(0)", with(EIGHT).hands(0), 76543210);
        due("eight longer: hands(0)", with("t00010500;".repeat(8)).hands(0), 76543210);
        due("eight backwards: hands(0)", with("t00010807;t00010806;t00010805;t00010804;t00010803;t00010802;t00010801;t00010808;").hands(0), 65432107);
        due("one that drips as one of DRYING 0: hands(0)", with("t29010100;t00010200;t00010302;").hands(0), 102);

        says(TERMS, "THROUGH by it (only so reckoned: each washed behind the other, dried behind the other, dripping ones aside)");
        due("none: hands(1)", new WashAndDry().hands(1), 0);
        due("DRYING 0: hands(1)", with("t00010300;").hands(1), 3);
        due("washed behind the other: hands(1)", with("t00012001;t00012001;").hands(1), 41);
        due("dried behind the other: hands(1)", with("t00010120;t00010120;").hands(1), 41);
        due("dripping aside: hands(1)", with("t29010100;").hands(1), 10);
        due("dripping aside, dried longer: hands(1)", with("t29010100;t00010120;").hands(1), 21);
    }

    private static void soonest() {
        says(TERMS, "SOONEST of all orders of all THINGS (6 at most) that MAY be, no NEW places, as all is: THROUGH; "
                + "the first such ORDER (by THINGS one behind the other; digits); -9 none MAY be.");
        due("one: soonest(0)", with("t00010304;").soonest(0), 7);
        due("one: soonest(1)", with("t00010304;").soonest(1), 0);
        due("six: soonest(0)", with(QUICK.repeat(6)).soonest(0), 7);
        due("seven: soonest(0)", with(QUICK.repeat(7)).soonest(0), -3);
        due("of several the first: soonest(1)", with(QUICK.repeat(6)).soonest(1), 543210);
        // What makes the water greasy suits the end: 1 1 2 5 9 and 5 to wash, and any two changed take more.
        String falling = "t00910100;t30810100;t30610100;t30410100;t30210100;t30010100;";
        due("the last of all orders: soonest(1)", with(falling).soonest(1), 12345);
        due("the last of all orders: soonest(0)", with(falling).soonest(0), 23);
        // All glasses ahead of all pans: -9 can never be.
        due("pans and glasses: soonest(1)", with(PAN.repeat(3) + GLASS.repeat(3)).soonest(1), 210543);
        due("the ROW is none of it: soonest(1)", row(with("t00010201;t00010301;"), 0, 9).soonest(1), 10);
        WashAndDry x = with("t00911010;t00911010;o01;n1;s1=0;");
        due("no NEW places: soonest(0)", x.soonest(0), 31);
        due("with them it were sooner: through()", x.through(), 30);
        due("as all is, RACK 0: soonest(0)", with("t00010110;t00010110;s0=0;s2=1;s3=1;s4=7;").soonest(0), 28);
    }

    private static void rackWaterCloths() {
        says(TERMS, "LEAST RACK (0 .. 12) by which the ORDER is THROUGH at a told MINUTE or ahead; -9.");
        WashAndDry x = with("t29030100;t00010101;o01;");
        due("no ORDER: rack(0)", with(QUICK).rack(0), 0);
        due("at that MINUTE: rack(19)", x.rack(19), 4);
        due("ahead of it: rack(20)", x.rack(20), 3);
        due("0 is enough: rack(21)", x.rack(21), 0);
        due("by none: rack(18)", x.rack(18), -9);
        // 0 is dried till 21, 1 to 4 lie there till then: the pot is begun at 5 if all have room, else at 21.
        String piled = "t00010120;t00030100;t00030100;t00030100;t00030100;t29032000;o012345;";
        due("12 and not less: rack(43)", with(piled).rack(43), 12);
        due("no RACK: rack(42)", with(piled).rack(42), -9);
        // RACK 1: the second is held from 16, and drips at once; RACK 2: it waits till the first has dripped, till 19.
        due("more RACK can be later: rack(21)", with("t29010100;t25020100;o01;").rack(21), 1);
        due("RACK 1: through()", with("t29010100;t25020100;o01;s0=1;").through(), 21);
        due("RACK 2: through()", with("t29010100;t25020100;o01;s0=2;").through(), 24);
        due("whatever MAY be: rack(999)", with(PAN + GLASS + "o01;").rack(999), 0);

        says(TERMS, "WATER: the NEW places (bits) by which the ORDER MAY be and is THROUGH soonest, of several the least bits; THROUGH then; -9 none.");
        WashAndDry none = with(QUICK);
        due("no ORDER: water(0)", none.water(0), 0);
        due("no ORDER: water(1)", none.water(1), 0);
        due("one: water(0)", with("t00910501;o0;").water(0), 0);
        WashAndDry eight = with("t30910100;".repeat(8) + "o01234567;s1=0;");
        due("all but place 0: water(0)", eight.water(0), 254);
        due("all but place 0: water(1)", eight.water(1), 8);
        due("never worth it: water(0)", with("t00910101;t30010101;o01;s1=9;").water(0), 0);
        // A GLASS behind a PAN can always have new water: -9 can never be.
        due("GLASS behind PAN: water(0)", with(PAN + QUICK + GLASS + "o012;s1=9;").water(0), 2);
        due("NEW places that are do not count: water(0)", with(QUICK.repeat(3) + "o012;n1;n2;").water(0), 0);
        due("nor are they changed", with(QUICK.repeat(3) + "o012;n1;n2;").count(2), 2);

        says(TERMS, "ENOUGH CLOTHS (1 .. 3): the fewest by which it is THROUGH as soon as with 3.");
        due("no ORDER: cloths()", with(QUICK + "s2=1;").cloths(), 1);
        due("none is full: cloths()", with(EIGHT + "o01234567;s2=8;").cloths(), 1);
        due("one is: cloths()", with(EIGHT + "o01234567;s2=7;").cloths(), 2);
        due("two are: cloths()", with(EIGHT + "o01234567;s2=3;").cloths(), 3);
        due("with CLOTHS 1: cloths()", with(EIGHT + "o01234567;s2=3;s3=1;").cloths(), 3);
        due("the stove is quick: cloths()", with(EIGHT + "o01234567;s2=2;s4=2;").cloths(), 2);
    }

    private static void changedAndWhere() {
        says(TERMS, "CHANGED: the two places (10 times the lesser and the other) that are to be changed so that THROUGH (as it MAY be; "
                + "NEW places stay) is least, less than now; of several the first; -9.");
        due("no ORDER: changed()", with(QUICK).changed(), -9);
        due("one: changed()", with(QUICK + "o0;").changed(), -9);
        due("as soon, not less: changed()", with(QUICK.repeat(2) + "o01;").changed(), -9);
        due("as soon the other way about: changed()", with(QUICK + "t00012020;o10;").changed(), -9);
        due("places 0 and 1: changed()", with(SHORT_LONG + "o10;").changed(), 1);
        due("of several the first: changed()", with("t00011001;t00010110;t00010110;o012;").changed(), 1);
        // Only 6 and 7 may be changed, or 0 with one of them: then a pan comes behind the grease.
        String last = "t30010101;".repeat(6) + "t10911001;t10010110;o01234567;n6;";
        due("places 6 and 7: changed()", with(last).changed(), 67);
        due("NEW places stay", with(last).place(6, 1), 1);
        due("it MAY not be: changed()", with(PAN + GLASS + "o01;").changed(), -3);
        due("changed it may not be: changed()", with("t10011001;t30010110;o01;").changed(), -9);

        says(TERMS, "WHERE a THING that is not in the ORDER is to come (place 0 .. its size; NEW places from there on one farther) "
                + "so that THROUGH is least (MAY be), of several the first; -9.");
        due("no ORDER: where(0)", with(QUICK).where(0), 0);
        due("of several the first: where(1)", with(QUICK.repeat(2) + "o0;").where(1), 0);
        due("place 0: where(0)", with(SHORT_LONG + "o1;").where(0), 0);
        due("its size: where(1)", with(SHORT_LONG + "o0;").where(1), 1);
        due("behind seven: where(7)", with("t00010102;".repeat(7) + "t00012001;o0123456;").where(7), 7);
        due("it MAY not be: where(2)", with(PAN + GLASS + QUICK + "o01;").where(2), -9);
        due("but ahead of the PAN: where(1)", with(PAN + "t10010120;o0;").where(1), 0);
        // At place 0 or 1 the new water goes on to place 2, with the GLASS: 23 each; behind it 29.
        due("NEW places from there on: where(2)", with(PAN + "t10010109;t00010208;o01;n1;s1=9;").where(2), 0);
        // The new water goes on to place 2, with the GLASS, so that the second PAN may come ahead of it: 28, 24 and 24.
        due("a NEW place itself, too: where(2)", with("t30010120;" + GLASS + "t30010501;o01;n1;").where(2), 1);
        due("NEW places stay", with(PAN + GLASS + QUICK + "o01;n1;").place(1, 1), 1);
    }

    private static void eitherAndAlone() {
        says(TERMS, "EITHER: if either hand does either, things may be laid down: half of all WASHING and DRYING together (GREASE 0, MINUTE 0; "
                + "no dripping) rounded up, but the longest THING of both at least.");
        due("no THINGS: either()", new WashAndDry().either(), 0);
        due("half of 12: either()", with("t00010202;t00010202;t00010202;").either(), 6);
        due("half of 13: either()", with("t00010202;t00010202;t00010203;").either(), 7);
        due("the longest is half: either()", with("t00010303;t00010204;").either(), 6);
        due("the longest is more: either()", with("t00010304;t00010101;").either(), 7);
        due("one: either()", with("t00012020;").either(), 40);
        due("no dripping: either()", with("t29010100;").either(), 10);
        due("GREASE 0, MINUTE 0: either()", with("t30911000;t50911000;o01;").either(), 10);

        says(TERMS, "ALONE: each THING washed and dried by one hand: the THINGS of the hand that has THING 0 (bits) by which the longer of both hands "
                + "is least, of several the least bits; that.");
        due("one: alone(0)", with("t00010304;").alone(0), 1);
        due("one: alone(1)", with("t00010304;").alone(1), 7);
        due("eight alike, the least four: alone(0)", with(EIGHT).alone(0), 15);
        due("eight alike: alone(1)", with(EIGHT).alone(1), 8);
        due("0 and 7: alone(0)", with("t00010101;" + "t00010102;".repeat(6) + "t00011006;").alone(0), 129);
        due("0 and 7: alone(1)", with("t00010101;" + "t00010102;".repeat(6) + "t00011006;").alone(1), 18);
        due("0 is had by that hand: alone(0)", with("t00010201;t00010101;").alone(0), 1);
    }

    private static void third() {
        says(TERMS, "THIRD: with a third hand that only washes: the least MINUTE at which all are dry, if WASHING is shared by two so that the one "
                + "who is free first takes the next of the ORDER (of both HE), room enough (WASHING at GREASE 0, MINUTE 0); DRYING as told "
                + "(cloths aside, dripping ones aside but for being washed).");
        due("no ORDER: third()", with(QUICK).third(), 0);
        due("one: third()", with("t00010304;o0;").third(), 7);
        due("both begin at 0: third()", with("t00010501;t00010501;o01;").third(), 7);
        due("both begin at 0: third()", with("t00010500;t00010500;o01;").third(), 5);
        due("the one who is free first: third()", with("t00011001;t00010301;t00010301;t00010501;o0123;").third(), 14);
        due("her hand is one: third()", with("t00010120;t00010120;o01;").third(), 41);
        due("in the ORDER: third()", with("t00012001;t00010101;o01;").third(), 22);
        due("one that drips is washed: third()", with("t29010100;o0;").third(), 10);
        due("RACK 0, FULL 1, GREASE: third()", with("t00910101;t00910101;t00910101;o012;s0=0;s2=1;s3=1;").third(), 4);
        due("soaked from 0: third()", with("t50012000;t50012000;t50012000;o012;").third(), 40);
        due("NEW places aside: third()", with(QUICK.repeat(2) + "o01;n1;s1=9;").third(), 3);
    }

    private static void week() {
        says(TERMS, "WEEK: a ROW of 7 numbers (how loath each evening is): the evenings (bits) of the one who has evening 0 by which both are nearest, "
                + "of several the least; how far apart.");
        int[][] rows = {{0, 0, 0, 0, 0, 0, 0}, {99, 0, 0, 0, 0, 0, 0}, {0, 0, 0, 0, 0, 0, 99}, {99, 99, 99, 99, 99, 99, 99},
            {10, 0, 0, 0, 0, 0, 10}, {60, 10, 10, 10, 10, 10, 9}, {9, 10, 10, 10, 10, 10, 59}, {1, 2, 4, 8, 16, 32, 64}, {1, 1, 0, 0, 0, 0, 0},
            {0, 9, 9, 9, 9, 9, 45}};
        int[] evenings = {1, 1, 1, 7, 1, 1, 63, 63, 1, 63};
        int[] apart = {0, 99, 99, 99, 0, 1, 0, 1, 0, 0};
        for (int i = 0; i < rows.length; i++) {
            due("week(0) of row " + i, row(new WashAndDry(), rows[i]).week(0), evenings[i]);
            due("week(1) of row " + i, row(new WashAndDry(), rows[i]).week(1), apart[i]);
        }
        // 1 and 33 and 31 make 65, as the others do.
        due("week(0)", row(new WashAndDry(), 1, 33, 40, 31, 10, 5, 10).week(0), 11);
    }

    private static void rules() {
        says(TERMS, "RULES for the next one, from all THINGS: 0 the least number; 1 the longest WASHING; 2 the shortest; 3 the longest DRYING; "
                + "4 the least GREASE; 5 as 4, but PANS last; of like ones the least number (WASHING, DRYING as at GREASE 0, MINUTE 0): "
                + "the ORDER that comes (digits); THROUGH by it (no NEW places; -9: it MAY not be); BEST RULE: the one THROUGH soonest; -9.");
        WashAndDry none = new WashAndDry();
        WashAndDry alike = with(EIGHT);
        WashAndDry pans = with(PAN.repeat(8));
        for (int rule = 0; rule < 6; rule++) {
            due("no THINGS: rule(" + rule + ", 0)", none.rule(rule, 0), 0);
            due("no THINGS: rule(" + rule + ", 1)", none.rule(rule, 1), 0);
            due("eight alike: rule(" + rule + ", 0)", alike.rule(rule, 0), 76543210);
            due("eight alike: rule(" + rule + ", 1)", alike.rule(rule, 1), 9);
            due("eight PANS: rule(" + rule + ", 0)", pans.rule(rule, 0), 76543210);
        }
        // PAN, GLASS, POT and PAN; WASHING 4 2 5 4, DRYING 3 4 0 0, GREASE 0 9 9 0.
        WashAndDry x = with("t31010303;t10910203;t20910500;t31010300;");
        int[] orders = {3210, 1302, 2301, 3201, 2130, 3021};
        for (int rule = 0; rule < 6; rule++) {
            due("rule(" + rule + ", 0)", x.rule(rule, 0), orders[rule]);
        }
        int[] through = {-9, -9, 26, 34, -9, 41};
        for (int rule = 0; rule < 6; rule++) {
            due("rule(" + rule + ", 1)", x.rule(rule, 1), through[rule]);
        }
        due("best()", x.best(), 2);
        WashAndDry placed = with(PAN + GLASS + "o01;n1;");
        due("by the ORDER it MAY be: may()", placed.may(), 1);
        due("no NEW places: rule(0, 1)", placed.rule(0, 1), -9);
        due("nor the ORDER: count(1)", placed.count(1), 2);
        due("SOAKED ones as at MINUTE 0: rule(2, 0)", with("t50010900;t00010800;").rule(2, 0), 1);
        due("no THINGS: best()", none.best(), 0);
        due("of several the first: best()", alike.best(), 0);
        // PANS are last by rule 5, so that one MAY be always: -9 can never be.
        due("by 5 alone: best()", with("t30010120;t10010110;t30010110;t10010120;").best(), 5);
    }

    private static void fits() {
        says(TERMS, "FITS: of a MINUTE and THINGS (bits): in how many orders of all THINGS (6 at most; MAY be, no NEW places) just these are WET then; "
                + "the first such (digits; -9).");
        WashAndDry six = with("t00010103;".repeat(6));
        due("none yet, all orders: fits(0, 0, 0)", six.fits(0, 0, 0), 720);
        due("the first: fits(0, 0, 1)", six.fits(0, 0, 1), 543210);
        due("just 5 at 1: fits(1, 32, 0)", six.fits(1, 32, 0), 120);
        due("the first with 5 ahead: fits(1, 32, 1)", six.fits(1, 32, 1), 432105);
        due("all of them at 3: fits(3, 63, 0)", six.fits(3, 63, 0), 0);
        due("no such: fits(3, 63, 1)", six.fits(3, 63, 1), -9);
        due("seven: fits(0, 0, 0)", with(QUICK.repeat(7)).fits(0, 0, 0), -3);
        due("one: fits(1, 1, 0)", with(QUICK).fits(1, 1, 0), 1);
        due("one, dry: fits(2, 1, 1)", with(QUICK).fits(2, 1, 1), -9);
        WashAndDry x = with(PAN + GLASS + "o01;n1;");
        due("MAY be, no NEW places: fits(999, 0, 0)", x.fits(999, 0, 0), 1);
        due("MAY be, no NEW places: fits(999, 0, 1)", x.fits(999, 0, 1), 1);
        due("just these, not others, too: fits(2, 2, 0)", x.fits(2, 2, 0), 0);
        due("these: fits(2, 3, 0)", x.fits(2, 3, 0), 1);
    }

    private static void judged() {
        says(TERMS, "A ROW of numbers (0 .. 99; 12 at most): JUDGED: MINUTES at which the places of the ORDER are DRY, one behind the other: "
                + "the first that is not so (no such place, too); -9.");
        WashAndDry x = with(EIGHT + "o01234567;");
        due("no number: judge()", x.judge(), -9);
        due("the ORDER farther: judge()", row(x, 2, 3, 4).judge(), -9);
        due("all so: judge()", row(x, 2, 3, 4, 5, 6, 7, 8, 9).judge(), -9);
        due("the first not so: judge()", row(x, 3, 3, 3, 5, 6, 7, 8, 9).judge(), 0);
        due("the last not so: judge()", row(x, 2, 3, 4, 5, 6, 7, 8, 0).judge(), 7);
        due("a ninth: judge()", row(x, 2, 3, 4, 5, 6, 7, 8, 9, 10).judge(), 8);
        due("twelve: judge()", row(x, 2, 3, 4, 5, 6, 7, 8, 9, 0, 0, 0, 0).judge(), 8);
        WashAndDry none = with(QUICK);
        due("no ORDER, 0: judge()", row(none, 0).judge(), 0);
        due("no ORDER, no number: judge()", none.judge(), -9);
        due("above 99: judge()", row(with("t00012020;".repeat(5) + "o01234;"), 40, 60, 80, 99).judge(), 3);
        due("99 itself: judge()", row(with("t29012000;t29012000;t29010500;t29010900;o0123;"), 38, 67, 81, 99).judge(), -9);
    }

    private static void seeds() {
        says(TERMS, "SEEDS with a seed z: n evenings (1 .. 20), each all THINGS drawn one behind the other (a DRAW below how many are left, "
                + "of those left by numbers): how many of them MAY be; THROUGH of these together.");
        says(TERMS, "DRAWS: z becomes z times 1103515245 plus 12345 (an int, wrapping); a DRAW below n is (z without its sign's bit, over 65536, cut) "
                + "modulo n.");
        int[] seeds = {0, 1, -1, 2, 65535, 65536, LOW, LOW + 1, HIGH, HIGH - 1, 1103515245, -1103515245, 12345, -12345};
        String[] kitchens = {QUICK, SHORT_LONG, PAN + GLASS, "t00010110;t10011001;t30010505;",
            "t30910110;t10011001;t00010505;t30510203;t40110809;t59012000;t29010300;t10010720;"};
        for (String kitchen : kitchens) {
            for (int z : seeds) {
                for (int n : new int[] {1, 2, 20}) {
                    int[] dues = drawn(kitchen, n, z);
                    WashAndDry x = with(kitchen);
                    due("of " + kitchen + " seeds(" + n + ", " + z + ", 0)", x.seeds(n, z, 0), dues[0]);
                    due("of " + kitchen + " seeds(" + n + ", " + z + ", 1)", x.seeds(n, z, 1), dues[1]);
                }
            }
        }
        due("none of them: seeds(1, 3, 0)", with(GLASS + PAN).seeds(1, 3, 0), 0);
        due("none of them, together: seeds(1, 3, 1)", with(GLASS + PAN).seeds(1, 3, 1), 0);
        due("no NEW places: seeds(20, 0, 1)", with(QUICK.repeat(2) + "o01;n1;").seeds(20, 0, 1), 60);
        due("of all THINGS, not of the ORDER: seeds(20, 0, 1)", with(QUICK.repeat(2) + "o0;").seeds(20, 0, 1), 60);
    }

    /** The evenings drawn with numbers that never wrap, each told to an object of its own. */
    private static int[] drawn(String kitchen, int n, int seed) {
        long z = seed & 0xffffffffL;
        int things = kitchen.length() / 10;
        int[] answers = new int[2];
        for (int evening = 0; evening < n; evening++) {
            StringBuilder left = new StringBuilder("01234567".substring(0, things));
            StringBuilder order = new StringBuilder();
            while (left.length() > 0) {
                z = (z * 1103515245L + 12345L) % 4294967296L;
                int at = (int) (z % 2147483648L / 65536L % left.length());
                order.append(left.charAt(at));
                left.deleteCharAt(at);
            }
            WashAndDry y = with(kitchen + "o" + order + ";");
            if (y.may() == 1) {
                answers[0]++;
                answers[1] += y.through();
            }
        }
        return answers;
    }

    // ---- part III

    private static void partThree() {
        undone();
        tomorrow();
        stopped();
        picked();
        steps();
        later();
        dear();
        over();
        image();
    }

    private static void undone() {
        says(TERMS, "What put(), take(), fresh(), clear() changed can be UNDONE, the latest first, 8 at most (older ones no more; "
                + "a KITCHEN, restore(), where they are not refused, leave none): ORDER and NEW places are as ahead of it.");
        WashAndDry x = with(EIGHT);
        for (int thing = 0; thing < 8; thing++) {
            due("count(7) ahead of put(" + thing + ")", x.count(7), thing);
            x.put(thing);
        }
        due("8 at most: count(7)", x.count(7), 8);
        x.fresh(1);
        due("a 9th: count(7)", x.count(7), 8);
        for (int left = 7; left >= 0; left--) {
            due("undo()", x.undo(), left);
            due("count(1)", x.count(1), left + 1);
            due("count(2)", x.count(2), 0);
        }
        due("older ones no more: undo()", x.undo(), -3);
        due("the first thing stays: count(1)", x.count(1), 1);

        WashAndDry round = with(EIGHT + "o0;");
        for (int turn = 1; turn <= 5; turn++) {
            for (int thing = 1; thing <= 7; thing++) {
                round.put(thing);
            }
            round.clear();
            due("turn " + turn + " round the 8: undo()", round.undo(), 7);
            due("count(1)", round.count(1), 8);
            for (int left = 6; left >= 0; left--) {
                due("undo()", round.undo(), left);
            }
            due("count(1)", round.count(1), 1);
            due("undo()", round.undo(), -3);
        }

        WashAndDry each = with(QUICK.repeat(3) + "o012;n1;n2;");
        each.clear();
        due("clear() undone", each.undo(), 0);
        due("NEW places: count(2)", each.count(2), 2);
        each.take();
        due("take() undone", each.undo(), 0);
        due("its NEW place: place(2, 1)", each.place(2, 1), 1);
        each.fresh(1);
        due("fresh() undone", each.undo(), 0);
        due("NEW again: place(1, 1)", each.place(1, 1), 1);
        each.take();
        due("a KITCHEN: kitchen()", tell(each, "s0=6;"), 1);
        due("leaves none: undo()", each.undo(), -3);
        each.image();
        each.put(2);
        due("with a FAULT: kitchen()", tell(each, "s0=13;"), -2000);
        due("with a FAULT: count(7)", each.count(7), 1);
        each.restore();
        due("restore() leaves none: undo()", each.undo(), -3);
        WashAndDry none = with(QUICK);
        none.put(0);
        due("restore() refused", none.restore(), -3);
        due("leaves it: undo()", none.undo(), 0);
        due("what was undone is no more: undo()", none.undo(), -3);
        none.put(0);
        due("one: clear()", none.clear(), 1);
        due("clear() of one undone: undo()", none.undo(), 1);
        due("count(1)", none.count(1), 1);
        due("undo()", none.undo(), 0);
        due("clear() of none changed nothing: clear()", none.clear(), 0);
        due("undo()", none.undo(), -3);
    }

    private static void tomorrow() {
        says(TERMS, "TOMORROW: the fewest THINGS of the ORDER (bits) that, left out of it (a NEW place of one that is left out, or comes foremost, "
                + "is none), let the rest be THROUGH at a told MINUTE or ahead and MAY be; of several the least bits; how many.");
        WashAndDry eight = with(EIGHT + "o01234567;");
        due("all: tomorrow(0, 0)", eight.tomorrow(0, 0), 255);
        due("all: tomorrow(0, 1)", eight.tomorrow(0, 1), 8);
        due("all, 1 is too soon for one: tomorrow(1, 1)", eight.tomorrow(1, 1), 8);
        due("all but the last: tomorrow(2, 0)", eight.tomorrow(2, 0), 127);
        due("the least of one: tomorrow(8, 0)", eight.tomorrow(8, 0), 1);
        due("at that MINUTE none: tomorrow(9, 0)", eight.tomorrow(9, 0), 0);
        due("none: tomorrow(9, 1)", eight.tomorrow(9, 1), 0);
        WashAndDry x = with(QUICK.repeat(3) + "o21;n1;");
        due("of the ORDER alone: tomorrow(0, 0)", x.tomorrow(0, 0), 6);
        due("no ORDER: tomorrow(0, 0)", with(QUICK).tomorrow(0, 0), 0);
        due("no ORDER: tomorrow(0, 1)", with(QUICK).tomorrow(0, 1), 0);
        due("of several the least: tomorrow(2, 0)", x.tomorrow(2, 0), 2);
        due("comes foremost, its water is none: tomorrow(2, 0)", with("t00010501;" + QUICK + "o01;n1;").tomorrow(2, 0), 1);
        due("MAY be: tomorrow(999, 0)", with(PAN + GLASS + "o01;").tomorrow(999, 0), 1);
        due("its water is left out with it: tomorrow(10, 0)", with(PAN + "t00012001;" + GLASS + "o012;n1;").tomorrow(10, 0), 3);
        due("the water of another stays: tomorrow(6, 0)", with(QUICK + PAN + GLASS + "o012;n2;").tomorrow(6, 0), 1);
        due("the ORDER stays: count(1)", x.count(1), 2);
    }

    private static void stopped() {
        says(TERMS, "STOPPED: the first MINUTE (0 .. 999) at which just told THINGS (bits) are WET by the ORDER; -9; at how many MINUTES.");
        WashAndDry none = with(QUICK);
        due("no ORDER: stopped(0, 0)", none.stopped(0, 0), 0);
        due("no ORDER, from 0 to 999: stopped(0, 1)", none.stopped(0, 1), 1000);
        due("never: stopped(1, 0)", none.stopped(1, 0), -9);
        due("never: stopped(1, 1)", none.stopped(1, 1), 0);
        WashAndDry x = with("t00010103;" + QUICK + "o01;");
        due("1 alone at first: stopped(1, 0)", x.stopped(1, 0), 1);
        due("1 alone: stopped(1, 1)", x.stopped(1, 1), 1);
        due("both: stopped(3, 0)", x.stopped(3, 0), 2);
        due("both: stopped(3, 1)", x.stopped(3, 1), 2);
        due("none, ahead and behind: stopped(0, 1)", x.stopped(0, 1), 996);
        due("none, at 0: stopped(0, 0)", x.stopped(0, 0), 0);
        due("all eight: stopped(255, 1)", with("t00010120;".repeat(8) + "o01234567;s0=12;").stopped(255, 1), 13);
    }

    private static void picked() {
        says(TERMS, "PICKED by turns: two by turns take one of all THINGS each till none is left, each to have as little as can be of WASHING and DRYING "
                + "(GREASE 0, MINUTE 0) in all: what the first one then has less than the other (may be below 0); the THING that the first takes "
                + "(of several the least; -9 none).");
        due("none: picked(0)", new WashAndDry().picked(0), 0);
        due("none: picked(1)", new WashAndDry().picked(1), -9);
        due("one: picked(0)", with("t00012020;").picked(0), -40);
        due("one: picked(1)", with("t00012020;").picked(1), 0);
        due("two: picked(0)", with("t00010504;t00010403;").picked(0), 2);
        due("two: picked(1)", with("t00010504;t00010403;").picked(1), 1);
        due("eight alike: picked(0)", with(EIGHT).picked(0), 0);
        due("eight alike: picked(1)", with(EIGHT).picked(1), 0);
        // 40 and 2 2 2 2 2 2 2: the second has 40 and 2 2 2.
        due("the last of eight is long: picked(0)", with(QUICK.repeat(7) + "t00012020;").picked(0), 38);
        // 7 things, the first has 4 of them: 2 2 2 and 40, the other 2 2 2.
        due("the first must: picked(0)", with(QUICK.repeat(6) + "t00012020;").picked(0), -40);
        due("GREASE 0, MINUTE 0, not by the ORDER: picked(0)", with("t30911000;t50911000;o01;").picked(0), 0);
    }

    private static void steps() {
        says(TERMS, "THREE STEPS: a ROW tells how long (0 .. 99 MINUTES) it takes to put each THING away (as many numbers as THINGS), one behind the other "
                + "in the ORDER as it is DRY, by a third hand: when all is away; the ORDER of all THINGS (6 at most, MAY be, no NEW places) "
                + "by which that is soonest: the first such (digits; -9); when.");
        due("none: steps(0)", new WashAndDry().steps(0), 0);
        due("no ORDER: steps(0)", row(with(QUICK), 99).steps(0), 0);
        due("0 MINUTES: steps(0)", row(with(QUICK + "o0;"), 0).steps(0), 2);
        due("99 MINUTES: steps(0)", row(with(QUICK + "o0;"), 99).steps(0), 101);
        due("by THINGS, not by places: steps(0)", row(with(QUICK.repeat(3) + "o20;"), 50, 7, 1).steps(0), 53);
        due("eight: steps(0)", row(with(EIGHT + "o01234567;"), 99, 99, 99, 99, 99, 99, 99, 99).steps(0), 794);
        // 1 is dry at 2 already, but it is put away behind 0, which is dry at 21.
        due("in the ORDER: steps(0)", row(with("t00010120;t20010100;o01;"), 5, 5).steps(0), 31);
        due("six: steps(1)", row(with(QUICK.repeat(6)), 1, 1, 1, 1, 1, 1).steps(1), 8);
        due("six: steps(2)", row(with(QUICK.repeat(6)), 1, 1, 1, 1, 1, 1).steps(2), 543210);
        due("seven: steps(1)", row(with(QUICK.repeat(7)), 1, 1, 1, 1, 1, 1, 1).steps(1), -3);
        due("seven: steps(2)", row(with(QUICK.repeat(7)), 1, 1, 1, 1, 1, 1, 1).steps(2), -3);
        due("seven, no ORDER: steps(0)", row(with(QUICK.repeat(7)), 1, 1, 1, 1, 1, 1, 1).steps(0), 0);
        due("soonest for the third, not for her: steps(2)", row(with("t00010201;t00010301;"), 0, 9).steps(2), 1);
        due("soonest for the third, not for her: steps(1)", row(with("t00010201;t00010301;"), 0, 9).steps(1), 13);
        due("MAY be: steps(2)", row(with(PAN + GLASS), 9, 0).steps(2), 1);
        due("no NEW places: steps(1)", row(with(QUICK.repeat(2) + "o01;n1;"), 0, 0).steps(1), 3);
    }

    private static void later() {
        says(TERMS, "LATER: the MINUTE (0 .. 60) at which both are to begin (in place of 0; SOAKED ones soak on from MINUTE 0) so that THROUGH less that "
                + "MINUTE is least, of several the first; that (0 without an ORDER).");
        due("no ORDER: later(0)", with(QUICK).later(0), 0);
        due("no ORDER: later(1)", with(QUICK).later(1), 0);
        due("none soaked: later(0)", with(QUICK + "o0;").later(0), 0);
        due("none soaked: later(1)", with(QUICK + "o0;").later(1), 2);
        // Washed in 29 if begun at 0, in 23 at 60, and in 22 at 70, which is too late.
        due("60: later(0)", with("t59012001;o0;").later(0), 60);
        due("60: later(1)", with("t59012001;o0;").later(1), 24);
        // Begun at 61 the soaked one were begun at 70, and washed in 22.
        due("61 is too late: later(0)", with("t00010900;t59012001;o01;").later(0), 51);
        due("61 is too late: later(1)", with("t00010900;t59012001;o01;").later(1), 33);
        due("of several the first: later(0)", with("t50010601;o0;").later(0), 50);
        due("1 at least: later(1)", with("t50010601;o0;").later(1), 2);
        due("soaked till it is begun: later(0)", with("t00010500;t50010201;o01;").later(0), 5);
        due("soaked till it is begun: later(1)", with("t00010500;t50010201;o01;").later(1), 7);
        due("cloths dry at first: later(1)", with(QUICK.repeat(2) + "o01;s2=1;s3=1;s4=60;").later(1), 63);
    }

    private static void dear() {
        says(TERMS, "DEAR: RACK at a each, CLOTHS at b each (0 .. 99): the cheapest RACK (0 .. 12) and CLOTHS (1 .. 3) with which the ORDER is THROUGH "
                + "at a told MINUTE or ahead: 10 RACK and CLOTHS, of several the least; -9.");
        due("no ORDER: dear(0, 99, 99)", with(QUICK).dear(0, 99, 99), 1);
        due("for nothing: dear(999, 0, 0)", with(QUICK + "o0;").dear(999, 0, 0), 1);
        due("never: dear(0, 0, 0)", with(QUICK + "o0;").dear(0, 0, 0), -9);
        due("at that MINUTE: dear(2, 1, 1)", with(QUICK + "o0;").dear(2, 1, 1), 1);
        due("ahead of it: dear(1, 1, 1)", with(QUICK + "o0;").dear(1, 1, 1), -9);
        String piled = "t00010120;t00030100;t00030100;t00030100;t00030100;t29032000;o012345;";
        due("RACK 12: dear(43, 99, 0)", with(piled + "s0=0;s3=3;").dear(43, 99, 0), 121);
        due("CLOTHS 3: dear(9, 0, 99)", with(EIGHT + "o01234567;s2=3;s3=1;").dear(9, 0, 99), 3);
        // The pot is washed from 2 on, if there is a rack for 1 or a cloth: else from 22 on.
        WashAndDry x = with(QUICK.repeat(2) + "t20012000;o012;s2=1;s0=5;s3=3;");
        due("a RACK is cheaper: dear(23, 1, 99)", x.dear(23, 1, 99), 11);
        due("a CLOTH is cheaper: dear(23, 99, 1)", x.dear(23, 99, 1), 2);
        due("as cheap, the least: dear(23, 1, 1)", x.dear(23, 1, 1), 2);
        due("1 more for a RACK: dear(23, 5, 4)", x.dear(23, 5, 4), 2);
        due("1 more for a CLOTH: dear(23, 4, 5)", x.dear(23, 4, 5), 11);
        due("neither is needed: dear(42, 99, 99)", x.dear(42, 99, 99), 1);
        due("settings stay: count(20)", x.count(20), 5);
        due("settings stay: count(23)", x.count(23), 3);
    }

    private static void over() {
        says(TERMS, "HANDS CHANGED: at which place p (1 .. its size less 1) both change over for good, THROUGH being reckoned as with TWO HANDS, "
                + "but by the ORDER: from p on WASHING takes s twentieths more (-10 .. 10; less, if below 0) and DRYING h twentieths more "
                + "(each rounded up), by which it is soonest, sooner than without: of several the first; -9.");
        due("no ORDER: over(-10, -10, 0)", with(QUICK).over(-10, -10, 0), -9);
        due("no place 1: over(-10, -10, 0)", with("t00012020;o0;").over(-10, -10, 0), -9);
        due("no place 1: over(-10, -10, 1)", with("t00012020;o0;").over(-10, -10, 1), -9);
        WashAndDry eight = with("t00011001;".repeat(7) + "t00010120;o01234567;");
        due("place 7: over(10, -10, 0)", eight.over(10, -10, 0), 7);
        due("place 7: over(10, -10, 1)", eight.over(10, -10, 1), 82);
        WashAndDry x = with(QUICK + "t00012020;o01;n1;s0=0;s1=9;s2=1;s3=1;");
        int[][] dues = {{-10, -10, 21}, {-10, 9, 40}, {-10, 10, -9}, {9, -10, 40}, {10, -10, -9}, {0, 0, -9}, {-1, 0, 40}, {0, -1, 40},
            {1, 0, -9}, {0, 1, -9}};
        for (int[] d : dues) {
            due("over(" + d[0] + ", " + d[1] + ", 0)", x.over(d[0], d[1], 0), d[2] == -9 ? -9 : 1);
            due("over(" + d[0] + ", " + d[1] + ", 1)", x.over(d[0], d[1], 1), d[2]);
        }
        WashAndDry wash3 = with(QUICK + "t00010300;o01;");
        due("2 and a bit is 3: over(-6, 0, 0)", wash3.over(-6, 0, 0), -9);
        due("not quite 2 is 2: over(-7, 0, 1)", wash3.over(-7, 0, 1), 3);
        WashAndDry dry3 = with(QUICK + "t00010103;o01;");
        due("2 and a bit is 3: over(0, -6, 0)", dry3.over(0, -6, 0), -9);
        due("not quite 2 is 2: over(0, -7, 1)", dry3.over(0, -7, 1), 4);
        WashAndDry wash1 = with(QUICK + "t00010120;o01;");
        due("1 and a bit is 2: over(1, -10, 1)", wash1.over(1, -10, 1), 13);
        due("half of 1 is 1: over(-10, -10, 1)", wash1.over(-10, -10, 1), 12);
        due("of several the first: over(0, -10, 0)", with(QUICK.repeat(2) + "t00010120;o012;").over(0, -10, 0), 1);
        due("one that drips is washed: over(-10, 0, 1)", with(QUICK + "t29010100;o01;").over(-10, 0, 1), 6);
    }

    private static void image() {
        says(TERMS, "THE IMAGE: all that there is, but it, letters, the ROW, REFUSALS.");
        WashAndDry x = with(SHORT_LONG + "o10;n1;s0=1;s1=2;s2=3;s3=1;s4=5;");
        x.image();
        int[] others = {9, 9, 9, 3, 9};
        for (int setting = 0; setting < 5; setting++) {
            x.set(setting, others[setting]);
        }
        tell(x, QUICK + "o2;");
        x.feed('n');
        row(x, 4, 5);
        x.put(9);
        due("restore()", x.restore(), 2);
        int[] counts = {2, 2, 1, 11, 11, 1, 2, 0};
        for (int what = 0; what < 8; what++) {
            due("count(" + what + ")", x.count(what), counts[what]);
        }
        int[] settings = {1, 2, 3, 1, 5};
        for (int setting = 0; setting < 5; setting++) {
            due("count(2" + setting + ")", x.count(20 + setting), settings[setting]);
        }
        due("REFUSALS: count(11)", x.count(11), 1);
        due("letters: kitchen()", tell(x, "1;"), 1);
        due("place(1, 1), which was NEW", x.place(1, 1), 0);
        due("the image is as it was: restore()", x.restore(), 2);
        due("place(1, 1)", x.place(1, 1), 1);
        due("the ROW: judge()", x.judge(), 0);
        due("one of none: image()", new WashAndDry().image(), 0);
        WashAndDry none = new WashAndDry();
        none.image();
        tell(none, EIGHT + "o01234567;");
        due("of none: restore()", none.restore(), 0);
        due("no THINGS: thing(0, 0)", none.thing(0, 0), -1);
        due("no ORDER: clear()", none.clear(), 0);
        due("room for eight: kitchen()", tell(none, EIGHT), 8);
    }

    private static void refusals() {
        says(TERMS, "REFUSALS (the call answers the number, the first that fits in the order in which it tells them; nothing changes but how many "
                + "there were)");
        WashAndDry x = with(QUICK + "o0;");
        for (int times = 1; times <= 100; times++) {
            x.put(0);
            due("count(11)", x.count(11), times);
        }
        due("and no others", x.count(12) + x.count(13) + x.count(14) + x.count(15) + x.count(16), 0);
        due("count(1)", x.count(1), 1);

        says(TERMS, "-1 NOBODY: no such THING, SETTING, place, one twice.");
        due("no such THING: put(1)", x.put(1), -1);
        due("no such SETTING: set(5, 0)", x.set(5, 0), -1);
        due("no such place: place(1, 0)", x.place(1, 0), -1);
        due("one twice: put(0)", x.put(0), -1);

        says(TERMS, "-2 OTHER: what, RULE. -3 STATE: it is not as told. -4 BELOW: a number below the least. -6 ROOM: a number above the greatest, no room.");
        due("what: hands(2)", x.hands(2), -2);
        due("RULE: rule(6, 0)", x.rule(6, 0), -2);
        due("no image: restore()", x.restore(), -3);
        due("below: row(-1)", x.row(-1), -4);
        due("above: row(100)", x.row(100), -6);
        row(x, 0, 0, 0, 0, 0, 0, 0, 0, 0, 0, 0, 0);
        due("no room: row(0)", x.row(0), -6);
        int[] counts = {104, 2, 1, 1, 0, 2};
        for (int i = 0; i < 6; i++) {
            due("count(1" + (i + 1) + ")", x.count(11 + i), counts[i]);
        }

        says(TERMS, "Of picked() 1000000000 less them (-1 as 1000000001).");
        due("picked(2)", x.picked(2), 1000000002);
        due("picked(" + LOW + ")", x.picked(LOW), 1000000002);
        due("count(12)", x.count(12), 4);
    }

    // ---- the promises: letters, things, settings

    private static void promisesOfTelling() {
        newObject();
        feed();
        kitchen();
        thingAndWashing();
        set();
    }

    private static void newObject() {
        says(1, "No THINGS, no ORDER.");
        WashAndDry x = new WashAndDry();
        for (int what = 0; what <= 7; what++) {
            due("count(" + what + ")", x.count(what), 0);
        }
        for (int what = 11; what <= 16; what++) {
            due("count(" + what + ")", x.count(what), 0);
        }
        due("thing(0, 0)", x.thing(0, 0), -1);
        due("place(0, 0)", x.place(0, 0), -1);
        due("restore()", x.restore(), -3);
        due("undo()", x.undo(), -3);
        due("through()", x.through(), 0);
    }

    private static void feed() {
        says(2, "-4; -6 (255; 96, too).");
        WashAndDry x = new WashAndDry();
        due("feed(-1)", x.feed(-1), -4);
        due("feed(LOW)", x.feed(LOW), -4);
        due("feed(256)", x.feed(256), -6);
        due("feed(HIGH)", x.feed(HIGH), -6);
        due("feed(0)", x.feed(0), 1);
        due("feed(255)", x.feed(255), 2);
        due("kitchen()", x.kitchen(), -1000);
        for (int i = 1; i <= 48; i++) {
            due("feed('o')", x.feed('o'), 2 * i - 1);
            due("feed(';')", x.feed(';'), 2 * i);
        }
        due("a 97th: feed('o')", x.feed('o'), -6);
        due("a 97th: feed(0)", x.feed(0), -6);
        due("a 97th: feed(256)", x.feed(256), -6);
        due("a 97th, below: feed(-1)", x.feed(-1), -4);
        due("count(5)", x.count(5), 96);
        due("what is refused has not come: kitchen()", x.kitchen(), 48);
        due("room again: feed('o')", x.feed('o'), 1);
        due("count(14)", x.count(14), 3);
        due("count(16)", x.count(16), 5);
    }

    private static void kitchen() {
        says(3, "The letters, which are no more then (with a FAULT neither), are a KITCHEN: how many STATEMENTS; the FAULT (nothing is counted).");
        String[] texts = {"", "o;", "x", "o", "o0;", "s0=99;"};
        int[] dues = {-1000, 1, -1000, -1001, -2000, -2000};
        for (int i = 0; i < texts.length; i++) {
            WashAndDry x = new WashAndDry();
            due("kitchen() of " + texts[i], tell(x, texts[i]), dues[i]);
            due("letters then: count(5)", x.count(5), 0);
            due("kitchen() again", x.kitchen(), -1000);
            for (int what = 11; what <= 16; what++) {
                due("count(" + what + ")", x.count(what), 0);
            }
            due("a new one: kitchen()", tell(x, "o;o;"), 2);
        }
    }

    private static void thingAndWashing() {
        says(4, "its place in the ORDER (8; -9).");
        WashAndDry x = with(EIGHT + "o70;");
        due("thing(7, 8)", x.thing(7, 8), 0);
        due("thing(0, 8)", x.thing(0, 8), 1);
        due("thing(1, 8)", x.thing(1, 8), -9);
        says(4, "-1; -2.");
        for (int thing : new int[] {LOW, -1, 8, 9, HIGH}) {
            for (int what : new int[] {LOW, -1, 0, 8, 9, HIGH}) {
                due("thing(" + thing + ", " + what + ")", x.thing(thing, what), -1);
            }
        }
        for (int what : new int[] {LOW, -1, 9, HIGH}) {
            due("thing(7, " + what + ")", x.thing(7, what), -2);
        }
        says(4, "KIND (what 0), FIGURE (1), GREASE (2), ROOM (3), WASH (4), DRY (5), DRYING (6), 1 it drips (7)");
        int[] most = {5, 9, 9, 3, 20, 20, 20, 0};
        WashAndDry y = with("t59932020;t00010100;");
        int[] least = {0, 0, 0, 1, 1, 0, 0, 0};
        for (int what = 0; what < 8; what++) {
            due("thing(0, " + what + ")", y.thing(0, what), most[what]);
            due("thing(1, " + what + ")", y.thing(1, what), least[what]);
        }

        says(5, "begun at m (0 .. 999) with GREASE g (0 .. 99). -1; -4; -6.");
        WashAndDry w = with("t59012000;");
        due("washing(0, 0, 0)", w.washing(0, 0, 0), 29);
        due("washing(0, 0, 99)", w.washing(0, 0, 99), 48);
        due("washing(0, 999, 0)", w.washing(0, 999, 0), 1);
        due("washing(0, 999, 99)", w.washing(0, 999, 99), 1);
        int[] edges = {LOW, -1, 0, 99, 100, 999, 1000, HIGH};
        for (int m : edges) {
            for (int g : edges) {
                due("washing(-1, " + m + ", " + g + ")", w.washing(-1, m, g), -1);
                due("washing(1, " + m + ", " + g + ")", w.washing(1, m, g), -1);
                if (m < 0 || g < 0 || m > 999 || g > 99) {
                    due("washing(0, " + m + ", " + g + ")", w.washing(0, m, g), m < 0 || g < 0 ? -4 : -6);
                }
            }
        }
    }

    private static void set() {
        says(6, "A SETTING: what it was. -1; -4; -6.");
        int[] least = {0, 0, 1, 1, 1};
        int[] most = {12, 9, 30, 3, 60};
        int[] first = {6, 2, 5, 2, 20};
        for (int s = 0; s < 5; s++) {
            WashAndDry x = new WashAndDry();
            due("set(" + s + ", LOW)", x.set(s, LOW), -4);
            due("set(" + s + ", below)", x.set(s, least[s] - 1), -4);
            due("set(" + s + ", above)", x.set(s, most[s] + 1), -6);
            due("set(" + s + ", HIGH)", x.set(s, HIGH), -6);
            due("as it was: set(" + s + ", least)", x.set(s, least[s]), first[s]);
            due("set(" + s + ", most)", x.set(s, most[s]), least[s]);
            due("set(" + s + ", most) again", x.set(s, most[s]), most[s]);
        }
        WashAndDry x = new WashAndDry();
        for (int s : new int[] {LOW, -1, 5, HIGH}) {
            for (int v : new int[] {LOW, -1, 1, 61, HIGH}) {
                due("set(" + s + ", " + v + ")", x.set(s, v), -1);
            }
        }
    }

    // ---- the promises: the order

    private static void promisesOfTheOrder() {
        says(7, "-1 (it is in it already, too).");
        WashAndDry x = with(EIGHT);
        for (int thing = 7; thing >= 0; thing--) {
            due("put(" + thing + ")", x.put(thing), 8 - thing);
            due("in it already: put(" + thing + ")", x.put(thing), -1);
        }
        for (int thing : new int[] {LOW, -1, 8, HIGH}) {
            due("put(" + thing + ")", x.put(thing), -1);
        }
        due("no THINGS: put(0)", new WashAndDry().put(0), -1);

        says(8, "The last of the ORDER leaves it (a NEW place there is none then): how many are left. -3 there is none.");
        tell(x, "o01234567;n1;n7;");
        for (int left = 7; left >= 0; left--) {
            due("take()", x.take(), left);
            due("NEW places: count(2)", x.count(2), left > 1 ? 1 : 0);
        }
        due("none: take()", x.take(), -3);
        due("no THINGS: take()", new WashAndDry().take(), -3);
        due("put(0)", x.put(0), 1);
        due("put(1)", x.put(1), 2);
        due("not NEW as once: place(1, 1)", x.place(1, 1), 0);

        says(9, "A place becomes NEW, or not any more: 1, 0. -1 (0, too).");
        due("fresh(1)", x.fresh(1), 1);
        due("fresh(1)", x.fresh(1), 0);
        for (int place : new int[] {LOW, -1, 0, 2, 8, 32, 33, HIGH}) {
            due("fresh(" + place + ")", x.fresh(place), -1);
        }
        due("one THING: fresh(1)", with(QUICK + "o0;").fresh(1), -1);
        due("no ORDER: fresh(0)", with(QUICK).fresh(0), -1);
        due("eight: fresh(7)", with(EIGHT + "o01234567;").fresh(7), 1);

        says(10, "-1; -2.");
        for (int place : new int[] {LOW, -1, 2, 32, HIGH}) {
            for (int what : new int[] {LOW, -1, 0, 1, 2, HIGH}) {
                due("place(" + place + ", " + what + ")", x.place(place, what), -1);
            }
        }
        for (int what : new int[] {LOW, -1, 2, HIGH}) {
            due("place(1, " + what + ")", x.place(1, what), -2);
        }
        says(10, "The THING on a place of the ORDER (what 0), 1 it is NEW (1).");
        due("place(1, 0)", x.place(1, 0), 1);
        due("place(1, 1)", x.place(1, 1), 0);
        due("the eighth: place(7, 0)", with(EIGHT + "o01234567;n7;").place(7, 0), 7);
        due("the eighth: place(7, 1)", with(EIGHT + "o01234567;n7;").place(7, 1), 1);

        says(11, "The ORDER is empty: how many it had.");
        due("two: clear()", x.clear(), 2);
        due("none: clear()", x.clear(), 0);
        due("no THINGS: clear()", new WashAndDry().clear(), 0);
        WashAndDry eight = with(EIGHT + "o01234567;n7;");
        due("eight: clear()", eight.clear(), 8);
        due("count(1)", eight.count(1), 0);
        due("count(2)", eight.count(2), 0);

        says(12, "Whether the ORDER MAY be: 1, 0.");
        due("no THINGS: may()", new WashAndDry().may(), 1);
        due("no ORDER: may()", with(PAN + GLASS).may(), 1);
        due("the eighth behind the first: may()", with(PAN + QUICK.repeat(6) + GLASS + "o01234567;").may(), 0);
        due("new water at the last: may()", with(PAN + QUICK.repeat(6) + GLASS + "o01234567;n7;").may(), 1);
    }

    // ---- the promises: the evening

    private static void promisesOfTheEvening() {
        says(13, "-1; -2.");
        WashAndDry x = with(QUICK.repeat(2) + "o01;");
        for (int place : new int[] {LOW, -1, 2, 8, HIGH}) {
            for (int what : new int[] {LOW, -1, 0, 4, 5, HIGH}) {
                due("when(" + place + ", " + what + ")", x.when(place, what), -1);
            }
        }
        for (int what : new int[] {LOW, -1, 5, HIGH}) {
            due("when(1, " + what + ")", x.when(1, what), -2);
        }
        due("no ORDER: when(0, 0)", with(QUICK).when(0, 0), -1);
        says(13, "begun (what 0)");
        due("when(0, 0)", x.when(0, 0), 0);
        due("when(1, 0)", x.when(1, 0), 1);

        says(14, "THROUGH (0 without THINGS).");
        due("no THINGS: through()", new WashAndDry().through(), 0);
        due("no ORDER: through()", with(EIGHT).through(), 0);
        due("one: through()", with(QUICK + "o0;").through(), 2);
        due("eight: through()", with("t59932020;".repeat(8) + "o01234567;s2=1;s3=1;s4=60;").through(), 609);

        says(15, "HE waits (what 0), SHE waits (1), GREASE (2), full cloths (3). -2.");
        for (int what : new int[] {LOW, -1, 4, HIGH}) {
            due("waits(" + what + ")", x.waits(what), -2);
            due("no THINGS: waits(" + what + ")", new WashAndDry().waits(what), -2);
        }
        for (int what = 0; what < 4; what++) {
            due("no THINGS: waits(" + what + ")", new WashAndDry().waits(what), 0);
        }
        due("eight full: waits(3)", with(EIGHT + "o01234567;s2=1;").waits(3), 8);
        due("eight of 9: waits(2)", with("t00910101;".repeat(8) + "o01234567;").waits(2), 72);

        says(16, "-4; -6 999.");
        for (int minute : new int[] {LOW, -1}) {
            due("wet(" + minute + ")", x.wet(minute), -4);
        }
        for (int minute : new int[] {1000, HIGH}) {
            due("wet(" + minute + ")", x.wet(minute), -6);
        }
        due("wet(0)", x.wet(0), 0);
        due("wet(1)", x.wet(1), 1);
        due("wet(999)", x.wet(999), 0);
        due("no THINGS: wet(0)", new WashAndDry().wet(0), 0);
    }

    private static void promisesOfBetterOnes() {
        WashAndDry none = new WashAndDry();
        WashAndDry x = with(QUICK.repeat(2) + "o01;");
        int[] wrongOnes = {LOW, -1, 2, HIGH};

        says(18, "SOONEST: THROUGH (what 0), ORDER (1); -9. -2; -3 no THINGS, more than 6.");
        for (int what : wrongOnes) {
            due("soonest(" + what + ")", x.soonest(what), -2);
            due("no THINGS, but -2 ahead: soonest(" + what + ")", none.soonest(what), -2);
        }
        for (int what = 0; what < 2; what++) {
            due("no THINGS: soonest(" + what + ")", none.soonest(what), -3);
            due("7: soonest(" + what + ")", with(QUICK.repeat(7)).soonest(what), -3);
            due("8: soonest(" + what + ")", with(EIGHT).soonest(what), -3);
        }
        due("6: soonest(0)", with(QUICK.repeat(6)).soonest(0), 7);

        says(19, "LEAST RACK; -9. -4; -6 999.");
        due("rack(LOW)", x.rack(LOW), -4);
        due("rack(-1)", x.rack(-1), -4);
        due("by none: rack(0)", x.rack(0), -9);
        due("rack(2)", x.rack(2), -9);
        due("rack(3)", x.rack(3), 0);
        due("rack(999)", x.rack(999), 0);
        due("rack(1000)", x.rack(1000), -6);
        due("rack(HIGH)", x.rack(HIGH), -6);

        says(20, "places (what 0), THROUGH (1); -9. -2.");
        for (int what : wrongOnes) {
            due("water(" + what + ")", x.water(what), -2);
        }
        due("MAY not be as it is: water(0)", with(PAN + GLASS + "o01;").water(0), 2);
        due("MAY not be as it is: water(1)", with(PAN + GLASS + "o01;").water(1), 6);

        says(22, "CHANGED; -9. -3 the ORDER MAY not be.");
        due("none sooner: changed()", x.changed(), -9);
        due("no THINGS: changed()", none.changed(), -9);
        due("it MAY not be: changed()", with(PAN + GLASS + "o01;").changed(), -3);
        due("it MAY, by new water: changed()", with(PAN + GLASS + "o01;n1;").changed(), 1);

        says(23, "WHERE; -9. -1 (it is in the ORDER, too).");
        for (int thing : new int[] {LOW, -1, 0, 1, 2, HIGH}) {
            due("where(" + thing + ")", x.where(thing), -1);
        }
        due("no THINGS: where(0)", none.where(0), -1);
        due("where(2), which has come", with(QUICK.repeat(3) + "o01;").where(2), 0);
        due("nowhere: where(2)", with(PAN + GLASS.repeat(2) + "o01;").where(2), -9);

        says(21, "ENOUGH CLOTHS.");
        due("no THINGS: cloths()", none.cloths(), 1);
    }

    private static void promisesOfHands() {
        WashAndDry none = new WashAndDry();
        WashAndDry x = with(QUICK.repeat(2) + "o01;");
        int[] wrongOnes = {LOW, -1, 2, HIGH};

        says(17, "ORDER (what 0), THROUGH (1). -2.");
        for (int what : wrongOnes) {
            due("hands(" + what + ")", x.hands(what), -2);
            due("no THINGS: hands(" + what + ")", none.hands(what), -2);
        }
        due("no THINGS: hands(0)", none.hands(0), 0);
        due("no THINGS: hands(1)", none.hands(1), 0);

        says(24, "EITHER.");
        due("no THINGS: either()", none.either(), 0);

        says(25, "THINGS (what 0), the longer (1). -2; -3 no THINGS.");
        for (int what : wrongOnes) {
            due("alone(" + what + ")", x.alone(what), -2);
            due("no THINGS, but -2 ahead: alone(" + what + ")", none.alone(what), -2);
        }
        due("no THINGS: alone(0)", none.alone(0), -3);
        due("no THINGS: alone(1)", none.alone(1), -3);

        says(26, "THIRD.");
        due("no THINGS: third()", none.third(), 0);

        says(27, "evenings (what 0), how far (1) (the ROW stays). -2; -3 it has not 7.");
        WashAndDry y = new WashAndDry();
        for (int numbers = 0; numbers <= 12; numbers++) {
            for (int what : wrongOnes) {
                due(numbers + " numbers: week(" + what + ")", y.week(what), -2);
            }
            due(numbers + " numbers: week(0)", y.week(0), numbers == 7 ? 7 : -3);
            due(numbers + " numbers: week(1)", y.week(1), numbers == 7 ? 1 : -3);
            due("the ROW stays: count(6)", y.count(6), numbers);
            y.row(1);
        }

        says(28, "ORDER (what 0), THROUGH (1; -9). -2 either.");
        for (int wrongOne : new int[] {LOW, -1, 6, HIGH}) {
            for (int other : new int[] {LOW, -1, 0, 1, 2, 6, HIGH}) {
                due("rule(" + wrongOne + ", " + other + ")", x.rule(wrongOne, other), -2);
            }
        }
        for (int what : wrongOnes) {
            due("rule(0, " + what + ")", x.rule(0, what), -2);
            due("rule(5, " + what + ")", x.rule(5, what), -2);
        }
        due("it MAY not be: rule(0, 1)", with(PAN + GLASS).rule(0, 1), -9);
        due("it MAY not be, but it comes: rule(0, 0)", with(PAN + GLASS).rule(0, 0), 10);

        says(29, "BEST RULE; -9.");
        due("0, 1 and 2 MAY not be: best()", with(PAN + GLASS).best(), 3);
        due("no THINGS: best()", none.best(), 0);

        says(30, "how many (what 0), the first (1; -9). -4; -6 (999; bits of no THINGS); -2; -3 no THINGS, more than 6.");
        fitsRefused(none, 0, -3);
        fitsRefused(with(QUICK), 1, 0);
        fitsRefused(with(QUICK.repeat(6)), 63, 0);
        fitsRefused(with(QUICK.repeat(7)), 127, -3);
        fitsRefused(with(EIGHT), 255, -3);
    }

    private static void fitsRefused(WashAndDry x, int all, int else0) {
        int[] minutes = {LOW, -1, 0, 999, 1000, HIGH};
        int[] things = {LOW, -1, 0, all, all + 1, HIGH};
        int[] whats = {LOW, -1, 0, 1, 2, HIGH};
        for (int minute : minutes) {
            for (int bits : things) {
                for (int what : whats) {
                    boolean below = minute < 0 || bits < 0;
                    boolean above = minute > 999 || bits > all;
                    int want = below ? -4 : above ? -6 : what < 0 || what > 1 ? -2 : else0;
                    int got = x.fits(minute, bits, what);
                    due("all are " + all + ": fits(" + minute + ", " + bits + ", " + what + ")", want == 0 && (got >= 0 || got == -9) ? 0 : got, want);
                }
            }
        }
    }

    // ---- the promises: the row, seeds

    private static void promisesOfRowAndSeeds() {
        says(31, "A number more of the ROW: how many. -4; -6 (99; 12, too).");
        WashAndDry x = with(QUICK.repeat(2) + "o01;");
        due("row(LOW)", x.row(LOW), -4);
        due("row(-1)", x.row(-1), -4);
        due("row(100)", x.row(100), -6);
        due("row(HIGH)", x.row(HIGH), -6);
        for (int i = 1; i <= 12; i++) {
            due("row(0) or row(99)", x.row(i % 2 == 0 ? 0 : 99), i);
        }
        due("a 13th: row(0)", x.row(0), -6);
        due("a 13th, above: row(100)", x.row(100), -6);
        due("a 13th, below: row(-1)", x.row(-1), -4);
        due("count(6)", x.count(6), 12);

        says(33, "The ROW has none then: how many it had.");
        due("twelve: drop()", x.drop(), 12);
        due("none: drop()", x.drop(), 0);
        due("room again: row(1)", x.row(1), 1);
        due("one: drop()", x.drop(), 1);

        says(32, "JUDGED; -9 (whichever it answers, the ROW has none then).");
        due("so: judge()", row(x, 2, 3).judge(), -9);
        due("count(6)", x.count(6), 0);
        due("not so: judge()", row(x, 2, 4).judge(), 1);
        due("count(6)", x.count(6), 0);
        due("no such place: judge()", row(x, 2, 3, 4).judge(), 2);
        due("count(6)", x.count(6), 0);
        due("no number: judge()", x.judge(), -9);
        due("no THINGS: judge()", new WashAndDry().judge(), -9);

        says(34, "-4; -6 20; -2; -3 no THINGS.");
        WashAndDry none = new WashAndDry();
        for (int z : new int[] {LOW, -1, 0, 1, HIGH}) {
            for (int what : new int[] {LOW, -1, 0, 1, 2, HIGH}) {
                boolean other = what < 0 || what > 1;
                for (int n : new int[] {LOW, -1, 0}) {
                    due("seeds(" + n + ", " + z + ", " + what + ")", x.seeds(n, z, what), -4);
                    due("no THINGS: seeds(" + n + ", " + z + ", " + what + ")", none.seeds(n, z, what), -4);
                }
                for (int n : new int[] {21, 22, HIGH}) {
                    due("seeds(" + n + ", " + z + ", " + what + ")", x.seeds(n, z, what), -6);
                    due("no THINGS: seeds(" + n + ", " + z + ", " + what + ")", none.seeds(n, z, what), -6);
                }
                for (int n : new int[] {1, 20}) {
                    due("seeds(" + n + ", " + z + ", " + what + ")", x.seeds(n, z, what), other ? -2 : what == 0 ? n : 3 * n);
                    due("no THINGS: seeds(" + n + ", " + z + ", " + what + ")", none.seeds(n, z, what), other ? -2 : -3);
                }
            }
        }
        says(34, "how many (what 0), THROUGH (1).");
        due("7 and 8 THINGS, too: seeds(20, 5, 0)", with(EIGHT).seeds(20, 5, 0), 20);
        due("together: seeds(20, 5, 1)", with(EIGHT).seeds(20, 5, 1), 180);
    }

    // ---- the promises: part III

    private static void promisesOfPartThree() {
        WashAndDry none = new WashAndDry();
        WashAndDry x = with(QUICK.repeat(3) + "o01;");
        int[] wrongOnes = {LOW, -1, 2, HIGH};

        says(35, "UNDONE: how many can still be. -3 none.");
        due("none: undo()", none.undo(), -3);
        due("none changed: undo()", x.undo(), -3);
        x.put(2);
        x.take();
        due("two: undo()", x.undo(), 1);
        due("one: undo()", x.undo(), 0);
        due("none: undo()", x.undo(), -3);

        says(36, "-4; -6 999; -2.");
        for (int what : new int[] {LOW, -1, 0, 1, 2, HIGH}) {
            due("tomorrow(LOW, " + what + ")", x.tomorrow(LOW, what), -4);
            due("tomorrow(-1, " + what + ")", x.tomorrow(-1, what), -4);
            due("tomorrow(1000, " + what + ")", x.tomorrow(1000, what), -6);
            due("tomorrow(HIGH, " + what + ")", x.tomorrow(HIGH, what), -6);
        }
        for (int what : wrongOnes) {
            due("tomorrow(0, " + what + ")", x.tomorrow(0, what), -2);
            due("tomorrow(999, " + what + ")", x.tomorrow(999, what), -2);
        }
        says(36, "THINGS (what 0, bits), how many (1).");
        due("tomorrow(0, 0)", x.tomorrow(0, 0), 3);
        due("tomorrow(0, 1)", x.tomorrow(0, 1), 2);
        due("tomorrow(999, 0)", x.tomorrow(999, 0), 0);

        says(37, "the first MINUTE (what 0; -9), at how many (1). -4; -6 bits of no THINGS; -2.");
        for (int what : new int[] {LOW, -1, 0, 1, 2, HIGH}) {
            due("stopped(LOW, " + what + ")", x.stopped(LOW, what), -4);
            due("stopped(-1, " + what + ")", x.stopped(-1, what), -4);
            due("stopped(8, " + what + ")", x.stopped(8, what), -6);
            due("stopped(HIGH, " + what + ")", x.stopped(HIGH, what), -6);
            due("no THINGS: stopped(1, " + what + ")", none.stopped(1, what), -6);
            due("eight: stopped(256, " + what + ")", with(EIGHT).stopped(256, what), -6);
        }
        for (int what : wrongOnes) {
            due("stopped(0, " + what + ")", x.stopped(0, what), -2);
            due("stopped(7, " + what + ")", x.stopped(7, what), -2);
        }
        due("THINGS, though not in the ORDER: stopped(7, 0)", x.stopped(7, 0), -9);
        due("stopped(7, 1)", x.stopped(7, 1), 0);
        due("eight: stopped(255, 0)", with(EIGHT).stopped(255, 0), -9);

        says(38, "how much less (what 0), the THING (1). Refused as told: -2.");
        for (int what : wrongOnes) {
            due("picked(" + what + ")", x.picked(what), 1000000002);
            due("no THINGS: picked(" + what + ")", none.picked(what), 1000000002);
        }
        due("below 0 is no refusal: picked(0)", with(QUICK).picked(0), -2);

        says(39, "when (what 0), the soonest (1; -9), its ORDER (2; -9) (the ROW stays). -2; -3 the ROW has not as many as THINGS; "
                + "more than 6 THINGS, none (what 1, 2).");
        for (int things = 0; things <= 8; things++) {
            stepsRefused(things);
        }

        says(40, "by how many (what 0), that (1). -2.");
        for (int what : wrongOnes) {
            due("later(" + what + ")", x.later(what), -2);
            due("no THINGS: later(" + what + ")", none.later(what), -2);
        }
        due("no THINGS: later(0)", none.later(0), 0);
        due("no THINGS: later(1)", none.later(1), 0);

        says(41, "DEAR; -9. -4 each; -6 (999; 99).");
        for (int minute : new int[] {LOW, -1, 0, 999, 1000, HIGH}) {
            for (int a : new int[] {LOW, -1, 0, 99, 100, HIGH}) {
                for (int b : new int[] {LOW, -1, 0, 99, 100, HIGH}) {
                    boolean below = minute < 0 || a < 0 || b < 0;
                    boolean above = minute > 999 || a > 99 || b > 99;
                    due("dear(" + minute + ", " + a + ", " + b + ")", x.dear(minute, a, b), below ? -4 : above ? -6 : minute == 0 ? -9 : 1);
                }
            }
        }

        says(42, "the place (what 0; -9), THROUGH then (1; -9). -4 either below -10; -6 10; -2.");
        WashAndDry y = with("t00010101;t00012020;o01;");
        for (int s : new int[] {LOW, -11, -10, 10, 11, HIGH}) {
            for (int h : new int[] {LOW, -11, -10, 10, 11, HIGH}) {
                for (int what : new int[] {LOW, -1, 0, 1, 2, HIGH}) {
                    boolean below = s < -10 || h < -10;
                    boolean above = s > 10 || h > 10;
                    boolean sooner = s + h == -20;
                    int want = below ? -4 : above ? -6 : what < 0 || what > 1 ? -2 : !sooner ? -9 : what == 0 ? 1 : 21;
                    due("over(" + s + ", " + h + ", " + what + ")", y.over(s, h, what), want);
                }
            }
        }
    }

    /** With one number fewer, as many and one more than THINGS. */
    private static void stepsRefused(int things) {
        for (int numbers = Math.max(0, things - 1); numbers <= things + 1; numbers++) {
            WashAndDry x = new WashAndDry();
            tell(x, things == 0 ? "o;" : QUICK.repeat(things));
            for (int i = 0; i < numbers; i++) {
                x.row(0);
            }
            String told = things + " THINGS, " + numbers + " numbers: steps(";
            for (int what : new int[] {LOW, -1, 3, HIGH}) {
                due(told + what + ")", x.steps(what), -2);
            }
            boolean turned = numbers == things && things >= 1 && things <= 6;
            due(told + "0)", x.steps(0), numbers == things ? 0 : -3);
            due(told + "1)", x.steps(1), turned ? things + 1 : -3);
            due(told + "2)", x.steps(2), turned ? 543210 % (int) Math.pow(10, things) : -3);
            due("the ROW stays: count(6)", x.count(6), numbers);
        }
    }

    // ---- the promises: the image, what is counted

    private static void promisesOfKeeping() {
        says(43, "THE IMAGE is taken: how many THINGS.");
        due("none: image()", new WashAndDry().image(), 0);
        due("eight: image()", with(EIGHT).image(), 8);

        says(44, "It is RESTORED: how many THINGS. -3 there is none.");
        WashAndDry x = with(EIGHT + "o0;");
        due("restore()", x.restore(), -3);
        x.image();
        x.clear();
        due("restore()", x.restore(), 8);
        due("count(1)", x.count(1), 1);
        due("again: restore()", x.restore(), 8);

        says(45, "0 THINGS, 1 in the ORDER, 2 NEW places, 3 all WASH, 4 all DRY, 5 letters, 6 in the ROW, 7 what can be UNDONE, 20 .. 24 SETTINGS, "
                + "11 .. 16 REFUSALS -1 .. -6. -9 for another what.");
        WashAndDry most = with("t59932020;".repeat(8) + "o01234567;");
        for (int place = 1; place <= 7; place++) {
            most.fresh(place);
        }
        for (int i = 0; i < 96; i++) {
            most.feed(255);
        }
        row(most, 1, 2, 3, 4, 5, 6, 7, 8, 9, 10, 11, 12);
        most.fresh(1);
        most.fresh(1);
        int[] full = {8, 8, 7, 160, 160, 96, 12, 8};
        for (int what = 0; what <= 7; what++) {
            due("count(" + what + ")", most.count(what), full[what]);
        }
        for (int what : new int[] {LOW, -9, -1, 8, 9, 10, 17, 18, 19, 25, 26, HIGH}) {
            due("count(" + what + ")", most.count(what), -9);
        }
        for (int what = 11; what <= 16; what++) {
            due("-9 is no refusal: count(" + what + ")", most.count(what), 0);
        }
        int[] first = {6, 2, 5, 2, 20};
        for (int what = 20; what <= 24; what++) {
            due("count(" + what + ")", most.count(what), first[what - 20]);
        }
    }
}
