/** For each promise: ordinary inputs, the edges that the document names, and wrong inputs. */
public final class PromiseTests {
    /** All kinds; reckoned by hand in alone(), evening() and where they are used. */
    private static final String ALL_KINDS =
            "t00110304;t10110203;t24920800;t33621006;t40210502;t52321205;";
    /** Washed in 1, dried in 10; washed in 10, dried in 1. */
    private static final String SHORT_LONG = "t00010110;t00011001;";
    private static final String THREE_SLOW_DRIED = "t00010110;t00010110;t00010110;";
    /** While the first is dried, four lie in the rack, 3 of room each; then a pot is long washed. */
    private static final String PILED = "t00010120;t00030100;t00030100;t00030100;t00030100;t29032000;o012345;";
    private static final String THREE_QUICK = "t00010101;t00010101;t00010101;";

    private static int wrong = 0;

    private static void due(int promise, String call, int got, int want) {
        if (got != want) {
            wrong++;
            System.out.println("promise " + promise + ": " + call + " answered " + got + ", due is " + want);
        }
    }

    private static int tell(WashAndDry x, String text) {
        for (int i = 0; i < text.length(); i++) {
            x.feed(text.charAt(i));
        }
        return x.kitchen();
    }

    private static WashAndDry with(String text) {
        WashAndDry x = new WashAndDry();
        if (tell(x, text) < 1) {
            wrong++;
            System.out.println("not a kitchen: " + text);
        }
        return x;
    }

    public static void main(String[] args) {
        p01NewObject();
        p02Feed();
        p03KitchenBroken();
        p03KitchenWrong();
        p03KitchenComes();
        p04Thing();
        p05Washing();
        p06Set();
        p07Put();
        p08Take();
        p09Fresh();
        p10Place();
        p11Clear();
        p12May();
        p13When();
        p13WhenRack();
        p13WhenCloths();
        p14Through();
        p15Waits();
        p16Wet();
        p17Hands();
        p18Soonest();
        p19Rack();
        p20Water();
        p21Cloths();
        p22Changed();
        p23Where();
        p24Either();
        p25Alone();
        p26Third();
        p27Week();
        p28Rule();
        p29Best();
        p30Fits();
        p31Row();
        p32Judge();
        p33Drop();
        p34Seeds();
        p35Undo();
        p36Tomorrow();
        p37Stopped();
        p38Picked();
        p39Steps();
        p40Later();
        p41Dear();
        p42Over();
        p43Image();
        p44Restore();
        p45Count();
        System.out.println(wrong == 0 ? "all promises hold" : wrong + " answers are not as due");
        if (wrong != 0) {
            System.exit(1);
        }
    }

    private static void p01NewObject() {
        WashAndDry x = new WashAndDry();
        for (int what = 0; what <= 7; what++) {
            due(1, "count(" + what + ")", x.count(what), 0);
        }
        int[] settings = {6, 2, 5, 2, 20};
        for (int s = 0; s < 5; s++) {
            due(1, "count(2" + s + ")", x.count(20 + s), settings[s]);
        }
    }

    private static void p02Feed() {
        WashAndDry x = new WashAndDry();
        due(2, "feed(-1)", x.feed(-1), -4);
        due(2, "feed(256)", x.feed(256), -6);
        due(2, "feed(0)", x.feed(0), 1);
        due(2, "feed(255)", x.feed(255), 2);
        for (int i = 3; i <= 96; i++) {
            due(2, "feed a " + i + "th", x.feed('s'), i);
        }
        due(2, "feed a 97th", x.feed('s'), -6);
        due(2, "feed(-1) when full", x.feed(-1), -4);
        due(2, "letters", x.count(5), 96);
    }

    private static void p03KitchenBroken() {
        String[] texts = {"", "x", "s", "s0", "s0=", "s0=1", "s0=123;", "s=1;", "s01;", "t0011030", "t0011030;", "t001103045;",
            "o", "o012345678;", "n", "n;", "n12;", "o;x", "o; ", "s9=99;t0", "t60110304;o;;"};
        int[] places = {0, 0, 1, 2, 3, 4, 5, 1, 2, 8, 8, 9, 1, 9, 1, 1, 2, 2, 2, 8, 12};
        for (int i = 0; i < texts.length; i++) {
            WashAndDry x = with(ALL_KINDS);
            due(3, "kitchen() of " + texts[i], tell(x, texts[i]), -1000 - places[i]);
            due(3, "letters then", x.count(5), 0);
            due(3, "things then", x.count(0), 6);
            due(3, "nothing counted", x.count(11) + x.count(12) + x.count(13) + x.count(14) + x.count(16), 0);
        }
        WashAndDry x = new WashAndDry();
        for (int i = 0; i < 96; i++) {
            x.feed(i % 2 == 0 ? 'o' : ';');
        }
        due(3, "kitchen() of 48 statements", x.kitchen(), 48);
    }

    private static void p03KitchenWrong() {
        String[] texts = {"s5=0;", "s5=1;", "s0=13;", "s1=10;", "s2=0;", "s2=31;", "s3=0;", "s3=4;", "s4=0;", "s4=61;",
            "t60110304;", "t00100304;", "t00140304;", "t00110004;", "t00112104;", "t00110321;",
            "o6;", "o00;", "o010;", "n0;", "n1;", "o01;n2;", "o01;n0;", "o01;o0;n1;",
            "s0=1;o0;o9;", ALL_KINDS.substring(0, 30), "o6;" + ALL_KINDS.substring(0, 10)};
        int[] places = {0, 0, 0, 0, 0, 0, 0, 0, 0, 0, 0, 0, 0, 0, 0, 0, 0, 0, 0, 0, 0, 4, 4, 7, 8, 20, 0};
        for (int i = 0; i < texts.length; i++) {
            WashAndDry x = with(ALL_KINDS);
            due(3, "kitchen() of " + texts[i], tell(x, texts[i]), -2000 - places[i]);
            due(3, "with a fault nothing comes", x.count(0) * 1000 + x.count(1) * 100 + x.count(20), 6006);
        }
    }

    private static void p03KitchenComes() {
        WashAndDry x = with(ALL_KINDS);
        due(3, "a thing more and an order of it", tell(x, "t59932020;o60;n1;s0=12;s1=0;s2=30;s3=3;s4=60;"), 8);
        due(3, "things", x.count(0), 7);
        due(3, "kind of the last", x.thing(6, 0), 5);
        due(3, "first of the order", x.place(0, 0), 6);
        due(3, "new water", x.place(1, 1), 1);
        due(3, "told again: not", tell(x, "n1;"), 1);
        due(3, "no new water", x.place(1, 1), 0);
        due(3, "settings", x.count(20) + x.count(21) + x.count(22) + x.count(23) + x.count(24), 105);
        x.fresh(1);
        due(3, "an order without new places", tell(x, "o01;"), 1);
        due(3, "new places", x.count(2), 0);
        due(3, "none can be undone", x.count(7), 0);
        x.put(2);
        due(3, "a fault", tell(x, "o9;"), -2000);
        due(3, "leaves what can be undone", x.count(7), 1);
        due(3, "an empty order", tell(x, "o;s1=09;"), 2);
        due(3, "in the order", x.count(1), 0);
        due(3, "one digit or two", x.count(21), 9);
    }

    private static void p04Thing() {
        WashAndDry x = with(ALL_KINDS + "o52;");
        int[][] dues = {{0, 0, 1, 1, 3, 4, 4, 0, -9}, {1, 0, 1, 1, 2, 3, 4, 0, -9}, {2, 4, 9, 2, 8, 0, 0, 1, 1},
            {3, 3, 6, 2, 10, 6, 6, 0, -9}, {4, 0, 2, 1, 5, 2, 2, 0, -9}, {5, 2, 3, 2, 12, 5, 5, 0, 0}};
        for (int thing = 0; thing < 6; thing++) {
            for (int what = 0; what <= 8; what++) {
                due(4, "thing(" + thing + ", " + what + ")", x.thing(thing, what), dues[thing][what]);
            }
        }
        due(4, "thing(6, 0)", x.thing(6, 0), -1);
        due(4, "thing(-1, 9)", x.thing(-1, 9), -1);
        due(4, "thing(0, 9)", x.thing(0, 9), -2);
        due(4, "thing(0, -1)", x.thing(0, -1), -2);
        WashAndDry dry0 = with("t05110300;t15110300;t25110300;t35110300;t45110300;t55110300;");
        int[] drips = {0, 0, 1, 1, 0, 1};
        int[] drying = {0, 1, 0, 0, 0, 0};
        for (int thing = 0; thing < 6; thing++) {
            due(4, "dry 0 thing(" + thing + ", 7)", dry0.thing(thing, 7), drips[thing]);
            due(4, "dry 0 thing(" + thing + ", 6)", dry0.thing(thing, 6), drying[thing]);
        }
    }

    private static void p05Washing() {
        WashAndDry x = with(ALL_KINDS);
        int[] clean = {3, 2, 12, 13, 2, 14};
        int[] greasy = {6, 2, 15, 25, 4, 17};
        int[] late = {6, 2, 15, 25, 4, 12};
        for (int thing = 0; thing < 6; thing++) {
            due(5, "washing(" + thing + ", 0, 0)", x.washing(thing, 0, 0), clean[thing]);
            due(5, "washing(" + thing + ", 9, 19)", x.washing(thing, 9, 19), greasy[thing]);
            due(5, "washing(" + thing + ", 59, 19)", x.washing(thing, 59, 19), late[thing]);
        }
        due(5, "soaked long", x.washing(5, 999, 0), 1);
        due(5, "half of 1", with("t40010100;").washing(0, 0, 0), 1);
        due(5, "washing(0, 999, 99)", x.washing(0, 999, 99), 22);
        due(5, "washing(6, -1, 0)", x.washing(6, -1, 0), -1);
        due(5, "washing(0, -1, 100)", x.washing(0, -1, 100), -4);
        due(5, "washing(0, 1000, -1)", x.washing(0, 1000, -1), -4);
        due(5, "washing(0, 1000, 0)", x.washing(0, 1000, 0), -6);
        due(5, "washing(0, 0, 100)", x.washing(0, 0, 100), -6);
    }

    private static void p06Set() {
        WashAndDry x = new WashAndDry();
        int[] first = {6, 2, 5, 2, 20};
        int[] least = {0, 0, 1, 1, 1};
        int[] most = {12, 9, 30, 3, 60};
        for (int s = 0; s < 5; s++) {
            due(6, "set(" + s + ", most)", x.set(s, most[s]), first[s]);
            due(6, "set(" + s + ", least)", x.set(s, least[s]), most[s]);
            due(6, "set(" + s + ", below)", x.set(s, least[s] - 1), -4);
            due(6, "set(" + s + ", above)", x.set(s, most[s] + 1), -6);
            due(6, "setting " + s, x.count(20 + s), least[s]);
        }
        due(6, "set(5, -1)", x.set(5, -1), -1);
        due(6, "set(-1, 0)", x.set(-1, 0), -1);
    }

    private static void p07Put() {
        WashAndDry x = with(ALL_KINDS);
        due(7, "put(5)", x.put(5), 1);
        due(7, "put(0)", x.put(0), 2);
        due(7, "put(5) again", x.put(5), -1);
        due(7, "put(6)", x.put(6), -1);
        due(7, "put(-1)", x.put(-1), -1);
        due(7, "the last place", x.place(1, 0), 0);
    }

    private static void p08Take() {
        WashAndDry x = with(ALL_KINDS + "o01;n1;");
        due(8, "take()", x.take(), 1);
        due(8, "new places", x.count(2), 0);
        due(8, "put(2)", x.put(2), 2);
        due(8, "its place is not new", x.place(1, 1), 0);
        x.take();
        due(8, "take() the first", x.take(), 0);
        due(8, "take() none", x.take(), -3);
    }

    private static void p09Fresh() {
        WashAndDry x = with(ALL_KINDS + "o012;");
        due(9, "fresh(2)", x.fresh(2), 1);
        due(9, "fresh(1)", x.fresh(1), 1);
        due(9, "fresh(2) again", x.fresh(2), 0);
        due(9, "fresh(0)", x.fresh(0), -1);
        due(9, "fresh(3)", x.fresh(3), -1);
        due(9, "fresh(-1)", x.fresh(-1), -1);
        due(9, "new places", x.count(2), 1);
    }

    private static void p10Place() {
        WashAndDry x = with(ALL_KINDS + "o420;n2;");
        due(10, "place(0, 0)", x.place(0, 0), 4);
        due(10, "place(2, 0)", x.place(2, 0), 0);
        due(10, "place(2, 1)", x.place(2, 1), 1);
        due(10, "place(1, 1)", x.place(1, 1), 0);
        due(10, "place(3, 5)", x.place(3, 5), -1);
        due(10, "place(-1, 0)", x.place(-1, 0), -1);
        due(10, "place(0, 2)", x.place(0, 2), -2);
        due(10, "place(0, -1)", x.place(0, -1), -2);
    }

    private static void p11Clear() {
        WashAndDry x = with(ALL_KINDS + "o420;n2;");
        due(11, "clear()", x.clear(), 3);
        due(11, "in the order", x.count(1), 0);
        due(11, "new places", x.count(2), 0);
        due(11, "can be undone", x.count(7), 1);
        due(11, "clear() none", x.clear(), 0);
        due(11, "nothing was changed", x.count(7), 1);
    }

    private static void p12May() {
        due(12, "none", new WashAndDry().may(), 1);
        due(12, "glass ahead of pan", with(ALL_KINDS + "o13;").may(), 1);
        due(12, "glass behind pan", with(ALL_KINDS + "o31;").may(), 0);
        due(12, "glass farther behind pan", with(ALL_KINDS + "o3021;").may(), 0);
        due(12, "new water at the glass", with(ALL_KINDS + "o31;n1;").may(), 1);
        due(12, "new water between", with(ALL_KINDS + "o3021;n2;").may(), 1);
        due(12, "new water at the pan", with(ALL_KINDS + "o0321;n1;").may(), 0);
        due(12, "glass behind pot and soaked", with(ALL_KINDS + "o251;").may(), 1);
        due(12, "the second glass", with(ALL_KINDS + "t10110101;o13;").may(), 1);
        due(12, "the second glass behind", with(ALL_KINDS + "t10110101;o136;").may(), 0);
    }

    /** Room for all, clean cloths till the end: each moment reckoned by hand. */
    private static void p13When() {
        WashAndDry x = with(ALL_KINDS + "o012345;");
        int[][] dues = {{0, 3, 3, 3, 7}, {3, 5, 5, 7, 11}, {5, 17, 17, 21, 21}, {17, 37, 37, 37, 43},
            {37, 41, 41, 43, 45}, {41, 54, 54, 54, 59}};
        for (int place = 0; place < 6; place++) {
            for (int what = 0; what < 5; what++) {
                due(13, "when(" + place + ", " + what + ")", x.when(place, what), dues[place][what]);
            }
        }
        due(13, "when(6, 9)", x.when(6, 9), -1);
        due(13, "when(-1, 0)", x.when(-1, 0), -1);
        due(13, "when(0, 5)", x.when(0, 5), -2);
        due(13, "when(0, -1)", x.when(0, -1), -2);
        // New water ahead of the pan: 2 minutes more, and 13 to wash it; the fork as in grease 6.
        x.fresh(3);
        due(13, "begun behind new water", x.when(3, 0), 19);
        due(13, "washed in new water", x.when(3, 1), 32);
        due(13, "the fork then", x.when(4, 1), 35);
    }

    private static void p13WhenRack() {
        WashAndDry x = with(THREE_SLOW_DRIED + "o012;s0=1;");
        due(13, "down as the rack is empty", x.when(2, 2), 11);
        due(13, "taken behind it", x.when(2, 3), 21);
        x.set(0, 0);
        due(13, "held out: down as it is taken", x.when(1, 2), 11);
        due(13, "begun behind that", x.when(2, 0), 11);
        due(13, "held out at once", x.when(0, 2), 1);
        WashAndDry drip = with("t25020100;t00010101;o01;s0=1;");
        due(13, "one that drips is held till dry", drip.when(0, 2), 11);
        due(13, "taken as it is dry", drip.when(0, 3), 11);
        due(13, "dry", drip.when(0, 4), 11);
        due(13, "the next is begun then", drip.when(1, 0), 11);
        drip.set(0, 2);
        due(13, "one that drips lies", drip.when(0, 2), 6);
        due(13, "dry behind being set down", drip.when(0, 4), 11);
        due(13, "no room while it drips", drip.when(1, 2), 11);
        due(13, "washed long ago", drip.when(1, 1), 7);
        drip.set(0, 3);
        due(13, "room beside it", drip.when(1, 2), 7);
        WashAndDry last = with("t00010110;t29010100;t00010101;t00020101;o0123;s0=2;");
        // 0 is taken at 1; the pot lies 11 .. 20; 2 washed at 12, taken 12; 3 needs all the room.
        due(13, "all the room", last.when(3, 2), 20);
    }

    private static void p13WhenCloths() {
        WashAndDry x = with(THREE_QUICK + "o012;s2=1;s3=1;s4=20;");
        due(13, "cloth by the stove", x.when(1, 3), 22);
        due(13, "and again", x.when(2, 3), 43);
        x.set(3, 2);
        due(13, "the other cloth", x.when(1, 3), 2);
        due(13, "the one dry first", x.when(2, 3), 22);
        x.set(3, 3);
        due(13, "the third cloth", x.when(2, 3), 3);
        x.set(2, 2);
        x.set(3, 1);
        due(13, "a cloth dries two", x.when(1, 3), 2);
        due(13, "then it is full", x.when(2, 3), 23);
        due(13, "how often full", x.waits(3), 1);
    }

    private static void p14Through() {
        due(14, "none", new WashAndDry().through(), 0);
        due(14, "all kinds", with(ALL_KINDS + "o012345;").through(), 59);
        due(14, "short, long", with(SHORT_LONG + "o01;").through(), 12);
        due(14, "long, short", with(SHORT_LONG + "o10;").through(), 21);
        due(14, "one drips last", with("t29010100;o0;").through(), 19);
        due(14, "grease rises", with("t00910100;t32010100;o01;s0=12;").through(), 11);
    }

    private static void p15Waits() {
        WashAndDry x = with(ALL_KINDS + "o012345;");
        due(15, "waits(0)", x.waits(0), 0);
        due(15, "waits(1)", x.waits(1), 38);
        due(15, "waits(2)", x.waits(2), 22);
        due(15, "waits(3)", x.waits(3), 1);
        due(15, "waits(4)", x.waits(4), -2);
        due(15, "waits(-1)", x.waits(-1), -2);
        x.fresh(3);
        due(15, "grease since new water", x.waits(2), 11);
        WashAndDry slow = with(THREE_SLOW_DRIED + "o012;s0=1;");
        due(15, "he waits for the rack", slow.waits(0), 8);
        slow.set(0, 0);
        due(15, "he holds out", slow.waits(0), 18);
        due(15, "she waits for the first", slow.waits(1), 1);
        WashAndDry drip = with("t00010101;t29010100;o01;s0=1;");
        due(15, "nobody waits for what drips", drip.waits(1), 1);
        drip.set(0, 0);
        due(15, "he holds what drips", drip.waits(0), 9);
        due(15, "no things", new WashAndDry().waits(1), 0);
    }

    private static void p16Wet() {
        WashAndDry x = with(ALL_KINDS + "o012345;");
        due(16, "wet(2)", x.wet(2), 0);
        due(16, "wet(3)", x.wet(3), 1);
        due(16, "wet(5)", x.wet(5), 3);
        due(16, "wet(7)", x.wet(7), 2);
        due(16, "wet(20)", x.wet(20), 4);
        due(16, "wet(42)", x.wet(42), 24);
        due(16, "wet(999)", x.wet(999), 0);
        due(16, "wet(1000)", x.wet(1000), -6);
        due(16, "wet(-1)", x.wet(-1), -4);
    }

    private static void p17Hands() {
        due(17, "none", new WashAndDry().hands(0), 0);
        // Washing 3 2 12 13 2 14, drying 4 4 0 6 2 5: first 1, 4, 0 (2, 2, 3), then 3, 5, 2.
        WashAndDry x = with(ALL_KINDS);
        due(17, "hands(0)", x.hands(0), 253041);
        due(17, "hands(1)", x.hands(1), 46);
        due(17, "hands(2)", x.hands(2), -2);
        due(17, "hands(-1)", x.hands(-1), -2);
        // Like ones by number, in both parts; 0 dries as long as it washes.
        WashAndDry like = with("t00010505;t00010906;t00010505;t00010806;");
        due(17, "like ones", like.hands(0), 3120);
        // One that drips counts by being washed, not by dripping.
        due(17, "one that drips", with("t29012000;t00010101;").hands(1), 30);
        due(17, "not by the order", with(SHORT_LONG + "o1;").hands(1), 12);
    }

    private static void p18Soonest() {
        WashAndDry x = with(SHORT_LONG);
        due(18, "soonest(0)", x.soonest(0), 12);
        due(18, "soonest(1)", x.soonest(1), 10);
        due(18, "soonest(2)", x.soonest(2), -2);
        due(18, "soonest(-1) of none", new WashAndDry().soonest(-1), -2);
        due(18, "of none", new WashAndDry().soonest(0), -3);
        due(18, "of 7", with(ALL_KINDS + "t00010101;").soonest(0), -3);
        due(18, "of 6", with(THREE_QUICK + THREE_QUICK).soonest(1), 543210);
        // Glass behind pan may not be: by 1, 0 it were 13.
        WashAndDry glass = with("t10011001;t30010110;");
        due(18, "as it may be", glass.soonest(0), 22);
        due(18, "glass first", glass.soonest(1), 10);
    }

    private static void p19Rack() {
        due(19, "none", new WashAndDry().rack(0), 0);
        WashAndDry x = with("t29030100;t00010101;o01;");
        // With room for both: pot 10 .. 19 beside the other, washed at 11.
        due(19, "rack(19)", x.rack(19), 4);
        due(19, "rack(20)", x.rack(20), 3);
        due(19, "rack(21)", x.rack(21), 0);
        due(19, "rack(18)", x.rack(18), -9);
        due(19, "rack(999)", x.rack(999), 0);
        due(19, "rack(1000)", x.rack(1000), -6);
        due(19, "rack(-1)", x.rack(-1), -4);
        due(19, "the rack is as it was", x.count(20), 6);
        WashAndDry piled = with(PILED);
        int[] minutes = {42, 43, 58, 59, 60, 61, 62};
        int[] racks = {-9, 12, 12, 9, 6, 3, 0};
        for (int i = 0; i < minutes.length; i++) {
            due(19, "piled, rack(" + minutes[i] + ")", piled.rack(minutes[i]), racks[i]);
        }
    }

    private static void p20Water() {
        due(20, "none", new WashAndDry().water(0) + new WashAndDry().water(1), 0);
        WashAndDry x = with("t00910100;t30010100;o01;");
        due(20, "water(0)", x.water(0), 2);
        due(20, "water(1)", x.water(1), 4);
        due(20, "water(2)", x.water(2), -2);
        due(20, "the places stay", x.count(2), 0);
        due(20, "not worth it", with(SHORT_LONG + "o01;n1;").water(0), 0);
        due(20, "glass behind pan", with("t30010101;t10010101;o01;").water(0), 2);
        due(20, "of several the least", with("t30010101;t00010101;t10010101;o012;").water(0), 2);
    }

    private static void p21Cloths() {
        due(21, "none", new WashAndDry().cloths(), 1);
        WashAndDry x = with(THREE_QUICK + "o012;s2=1;");
        due(21, "three", x.cloths(), 3);
        x.take();
        due(21, "two", x.cloths(), 2);
        x.set(2, 2);
        due(21, "one", x.cloths(), 1);
        due(21, "cloths stay", x.count(23), 2);
    }

    private static void p22Changed() {
        due(22, "none", new WashAndDry().changed(), -9);
        due(22, "1 and 0", with(SHORT_LONG + "o10;").changed(), 1);
        due(22, "as it is", with(SHORT_LONG + "o01;").changed(), -9);
        due(22, "may not be", with(ALL_KINDS + "o31;").changed(), -3);
        due(22, "farther", with(SHORT_LONG + "t00010202;o120;").changed(), 2);
        // Pan for glass were sooner, but may not be.
        due(22, "as it may be", with("t10011001;t30010110;o01;").changed(), -9);
        due(22, "with new water at its place", with("t10011001;t30010110;o01;n1;").changed(), 1);
    }

    private static void p23Where() {
        due(23, "ahead", with(SHORT_LONG + "o1;").where(0), 0);
        due(23, "behind", with(SHORT_LONG + "o0;").where(1), 1);
        due(23, "of several the first", with(THREE_QUICK + "o01;").where(2), 0);
        due(23, "into nothing", with(THREE_QUICK).where(2), 0);
        WashAndDry x = with(ALL_KINDS + "o031;");
        due(23, "may not be anyhow", x.where(4), -9);
        due(23, "in the order", x.where(3), -1);
        due(23, "where(6)", x.where(6), -1);
        due(23, "where(-1)", x.where(-1), -1);
        // The new water stays ahead of the glass behind the pan.
        due(23, "new places go farther", with("t30010101;t10010101;t00010120;o01;n1;").where(2), 0);
        due(23, "the order stays", x.count(1), 3);
    }

    private static void p24Either() {
        due(24, "none", new WashAndDry().either(), 0);
        due(24, "half", with(SHORT_LONG).either(), 11);
        due(24, "rounded up", with(THREE_QUICK + "t00010100;").either(), 4);
        due(24, "the longest", with("t00011010;t00010101;").either(), 20);
        // 3+2+12+13+2+14 and 4+4+0+6+2+5.
        due(24, "all kinds", with(ALL_KINDS).either(), 34);
        due(24, "not by the order", with(SHORT_LONG + "o0;").either(), 11);
    }

    private static void p25Alone() {
        due(25, "none", new WashAndDry().alone(0), -3);
        due(25, "alone(2) of none", new WashAndDry().alone(2), -2);
        WashAndDry x = with("t00010505;t00010202;t00010201;t00010201;");
        due(25, "alone(0)", x.alone(0), 1);
        due(25, "alone(1)", x.alone(1), 10);
        due(25, "alone(-1)", x.alone(-1), -2);
        WashAndDry like = with(THREE_QUICK);
        due(25, "of several the least", like.alone(0), 1);
        due(25, "the longer", like.alone(1), 4);
        // Both together 7 6 12 19 4 19, 67 in all: 7, 6 and either 19 are 32; none are 33 or 34.
        WashAndDry all = with(ALL_KINDS);
        due(25, "all kinds", all.alone(1), 35);
        due(25, "the earlier of two alike", all.alone(0), 11);
        due(25, "one thing", with("t00010505;").alone(0), 1);
    }

    private static void p26Third() {
        due(26, "none", new WashAndDry().third(), 0);
        due(26, "two wash", with("t00010501;t00010501;t00010501;o012;").third(), 11);
        due(26, "both begin at 0", with("t00010500;t00010500;o01;").third(), 5);
        due(26, "in their order", with("t00012001;t00010101;o01;").third(), 22);
        due(26, "one that drips is washed", with("t29012000;t00010101;o01;").third(), 29);
        due(26, "by the order alone", with(SHORT_LONG + "o0;").third(), 11);
        due(26, "cloths aside", with(THREE_QUICK + "o012;s2=1;s3=1;").third(), 4);
    }

    private static void p27Week() {
        WashAndDry x = new WashAndDry();
        due(27, "week(2)", x.week(2), -2);
        due(27, "week(0)", x.week(0), -3);
        int[] loath = {10, 1, 2, 3, 4, 99, 79};
        for (int v : loath) {
            x.row(v);
        }
        // 10 and 1, 79, 4, 2, 3 make 99.
        due(27, "the evenings", x.week(0), 95);
        due(27, "how far apart", x.week(1), 0);
        due(27, "the row stays", x.count(6), 7);
        x.row(1);
        due(27, "8 numbers", x.week(0), -3);
        x.drop();
        for (int i = 0; i < 7; i++) {
            x.row(1);
        }
        due(27, "of several the least", x.week(0), 7);
        due(27, "one apart", x.week(1), 1);
    }

    private static void p28Rule() {
        WashAndDry x = with(ALL_KINDS);
        // Washing 3 2 12 13 2 14, drying 4 4 0 6 2 5, grease 1 1 9 6 2 3.
        int[] orders = {543210, 410235, 532041, 241053, 235410, 325410};
        int[] may = {1, 0, 1, 0, 1, 1};
        for (int rule = 0; rule < 6; rule++) {
            due(28, "rule(" + rule + ", 0)", x.rule(rule, 0), orders[rule]);
            due(28, "rule(" + rule + ", 1) may be", x.rule(rule, 1) == -9 ? 0 : 1, may[rule]);
        }
        due(28, "rule(0, 1)", x.rule(0, 1), 59);
        due(28, "rule(6, 0)", x.rule(6, 0), -2);
        due(28, "rule(-1, 0)", x.rule(-1, 0), -2);
        due(28, "rule(0, 2)", x.rule(0, 2), -2);
        due(28, "of none", new WashAndDry().rule(5, 1), 0);
        due(28, "pans last", with("t30010101;t00910101;t30010101;").rule(5, 0), 201);
        due(28, "no new water", with(ALL_KINDS + "o012345;n3;").rule(0, 1), 59);
        due(28, "as all is", with(THREE_QUICK + "s2=1;s3=1;").rule(0, 1), 44);
    }

    private static void p29Best() {
        due(29, "of none", new WashAndDry().best(), 0);
        due(29, "the shortest", with("t00011001;t00010110;").best(), 2);
        due(29, "of several the first", with(SHORT_LONG).best(), 0);
        // By number the pan comes ahead of the glass; longest first, too; shortest is the glass.
        due(29, "one that may be", with("t30011001;t10010110;").best(), 2);
        due(29, "by grease alone", with("t30310120;t10010110;t30410310;").best(), 4);
        due(29, "with pans last alone", with("t30010120;t10010110;t30010110;t10010120;").best(), 5);
    }

    private static void p30Fits() {
        WashAndDry x = with(SHORT_LONG);
        due(30, "fits(5, 1, 0)", x.fits(5, 1, 0), 1);
        due(30, "fits(5, 1, 1)", x.fits(5, 1, 1), 10);
        due(30, "fits(5, 0, 1)", x.fits(5, 0, 1), 1);
        due(30, "fits(10, 3, 0)", x.fits(10, 3, 0), 0);
        due(30, "fits(10, 3, 1)", x.fits(10, 3, 1), -9);
        due(30, "fits(999, 0, 0)", x.fits(999, 0, 0), 2);
        due(30, "the first of several", x.fits(999, 0, 1), 10);
        due(30, "fits(-1, 4, 2)", x.fits(-1, 4, 2), -4);
        due(30, "fits(1000, -1, 2)", x.fits(1000, -1, 2), -4);
        due(30, "fits(1000, 0, 2)", x.fits(1000, 0, 2), -6);
        due(30, "fits(0, 4, 2)", x.fits(0, 4, 2), -6);
        due(30, "fits(0, 0, 2)", x.fits(0, 0, 2), -2);
        due(30, "of none", new WashAndDry().fits(0, 0, 0), -3);
        due(30, "of none, a thing", new WashAndDry().fits(0, 1, 0), -6);
        due(30, "of 7", with(ALL_KINDS + "t00010101;").fits(0, 0, 0), -3);
        due(30, "as it may be", with("t30010101;t10010101;").fits(999, 0, 0), 1);
    }

    private static void p31Row() {
        WashAndDry x = new WashAndDry();
        due(31, "row(-1)", x.row(-1), -4);
        due(31, "row(100)", x.row(100), -6);
        for (int i = 1; i <= 12; i++) {
            due(31, "row " + i, x.row(i == 1 ? 0 : 99), i);
        }
        due(31, "a 13th", x.row(1), -6);
        due(31, "below, when full", x.row(-1), -4);
    }

    private static void p32Judge() {
        WashAndDry x = with(SHORT_LONG + "o01;");
        due(32, "none told", x.judge(), -9);
        due(32, "right", judged(x, 11, 12), -9);
        due(32, "fewer", judged(x, 11), -9);
        due(32, "the first wrong", judged(x, 12, 12), 0);
        due(32, "the second wrong", judged(x, 11, 13), 1);
        due(32, "no such place", judged(x, 11, 12, 0), 2);
        due(32, "the row has none then", x.count(6), 0);
    }

    private static int judged(WashAndDry x, int... minutes) {
        for (int minute : minutes) {
            x.row(minute);
        }
        return x.judge();
    }

    private static void p33Drop() {
        WashAndDry x = new WashAndDry();
        due(33, "none", x.drop(), 0);
        x.row(1);
        x.row(2);
        due(33, "two", x.drop(), 2);
        due(33, "then", x.count(6), 0);
    }

    private static void p34Seeds() {
        WashAndDry x = with(SHORT_LONG);
        // Seed 0 draws 0 1, 0 1; seed 1: 0 1, 1 0; seed 3: 1 0, 1 0; seed 5: 1 0, 0 1.
        due(34, "seeds(1, 0, 1)", x.seeds(1, 0, 1), 12);
        due(34, "seeds(2, 0, 1)", x.seeds(2, 0, 1), 24);
        due(34, "seeds(2, 1, 1)", x.seeds(2, 1, 1), 33);
        due(34, "seeds(2, 3, 1)", x.seeds(2, 3, 1), 42);
        due(34, "seeds(2, 5, 1)", x.seeds(2, 5, 1), 33);
        due(34, "seeds(0, 0, 2)", x.seeds(0, 0, 2), -4);
        due(34, "seeds(21, 0, 2)", x.seeds(21, 0, 2), -6);
        due(34, "seeds(20, 0, 2)", x.seeds(20, 0, 2), -2);
        due(34, "seeds(20, 0, 0)", x.seeds(20, 0, 0), 20);
        due(34, "of none", new WashAndDry().seeds(1, 0, 0), -3);
        due(34, "one thing", with("t00010101;").seeds(20, -7, 1), 40);
        WashAndDry glass = with("t30010101;t10010101;");
        due(34, "one of two may be", glass.seeds(2, 1, 0), 1);
        due(34, "its minutes alone", glass.seeds(2, 1, 1), 4);
    }

    private static void p35Undo() {
        WashAndDry x = with(ALL_KINDS);
        due(35, "none", x.undo(), -3);
        x.put(0);
        x.put(1);
        x.fresh(1);
        x.take();
        x.clear();
        due(35, "clear() undone", x.undo(), 4);
        due(35, "in the order", x.count(1), 1);
        due(35, "take() undone", x.undo(), 3);
        due(35, "its new water, too", x.place(1, 1), 1);
        due(35, "fresh() undone", x.undo(), 2);
        due(35, "not new", x.place(1, 1), 0);
        due(35, "put() undone", x.undo(), 1);
        due(35, "in the order", x.count(1), 1);
        due(35, "the first", x.undo(), 0);
        due(35, "none any more", x.undo(), -3);
        x.put(0);
        x.put(0);
        x.fresh(0);
        due(35, "what is refused changes nothing", x.count(7), 1);
        x.put(1);
        for (int i = 0; i < 10; i++) {
            x.fresh(1);
        }
        due(35, "8 at most", x.count(7), 8);
        for (int left = 7; left >= 0; left--) {
            due(35, "undo()", x.undo(), left);
        }
        due(35, "older ones no more", x.count(1), 2);
        x.set(0, 1);
        due(35, "a setting is not undone", x.undo(), -3);
    }

    private static void p36Tomorrow() {
        due(36, "none", new WashAndDry().tomorrow(0, 0), 0);
        WashAndDry x = with(SHORT_LONG + "o10;");
        due(36, "tomorrow(21, 0)", x.tomorrow(21, 0), 0);
        due(36, "tomorrow(20, 0)", x.tomorrow(20, 0), 1);
        due(36, "tomorrow(20, 1)", x.tomorrow(20, 1), 1);
        due(36, "tomorrow(10, 0)", x.tomorrow(10, 0), 3);
        due(36, "tomorrow(10, 1)", x.tomorrow(10, 1), 2);
        due(36, "tomorrow(-1, 2)", x.tomorrow(-1, 2), -4);
        due(36, "tomorrow(1000, 2)", x.tomorrow(1000, 2), -6);
        due(36, "tomorrow(999, 2)", x.tomorrow(999, 2), -2);
        // The glass alone is dry at 6 without its new water, at 8 with it.
        due(36, "foremost without new water", with("t30012020;t10010203;o01;n1;").tomorrow(6, 0), 1);
        due(36, "as it may be", with("t30010101;t10010101;o01;").tomorrow(999, 0), 1);
        // Left out is the glass with its new water: the thing behind it is washed at 2, dry at 3.
        due(36, "new water left out", with("t30010101;t10010102;t00010101;o012;n1;").tomorrow(3, 0), 2);
        due(36, "new water farther on stays", with("t00010101;t30010101;t10010101;o012;n2;").tomorrow(6, 0), 1);
    }

    private static void p37Stopped() {
        WashAndDry x = with(SHORT_LONG + "o0;");
        due(37, "stopped(1, 0)", x.stopped(1, 0), 1);
        due(37, "stopped(1, 1)", x.stopped(1, 1), 10);
        due(37, "stopped(0, 0)", x.stopped(0, 0), 0);
        due(37, "stopped(0, 1)", x.stopped(0, 1), 990);
        due(37, "stopped(2, 0)", x.stopped(2, 0), -9);
        due(37, "stopped(2, 1)", x.stopped(2, 1), 0);
        due(37, "stopped(-1, 2)", x.stopped(-1, 2), -4);
        due(37, "stopped(4, 2)", x.stopped(4, 2), -6);
        due(37, "stopped(3, 2)", x.stopped(3, 2), -2);
    }

    private static void p38Picked() {
        due(38, "none", new WashAndDry().picked(0), 0);
        due(38, "none taken", new WashAndDry().picked(1), -9);
        WashAndDry x = with("t00010504;t00010201;t00010302;");
        due(38, "picked(0)", x.picked(0), -7);
        due(38, "picked(1)", x.picked(1), 1);
        due(38, "picked(2)", x.picked(2), 1000000002);
        due(38, "picked(-1)", x.picked(-1), 1000000002);
        due(38, "refused twice", x.count(12), 2);
        due(38, "of like ones the least", with("t00010504;t00010101;t00010101;t00010101;").picked(1), 1);
        // 9 8 8 20: 8 and then 9 is 17, as 9 and then 8 is: 9 is the lesser number.
        due(38, "of several the least", with("t00010504;t00010404;t00010404;t00011010;").picked(1), 0);
    }

    private static void p39Steps() {
        due(39, "none", new WashAndDry().steps(0), 0);
        due(39, "none to be turned", new WashAndDry().steps(1), -3);
        WashAndDry x = with(SHORT_LONG + "o01;");
        due(39, "steps(3)", x.steps(3), -2);
        due(39, "steps(-1)", x.steps(-1), -2);
        due(39, "without numbers", x.steps(0), -3);
        x.row(20);
        due(39, "with one number", x.steps(0), -3);
        x.row(5);
        due(39, "steps(0)", x.steps(0), 36);
        due(39, "steps(1)", x.steps(1), 36);
        due(39, "steps(2)", x.steps(2), 10);
        due(39, "the row stays", x.count(6), 2);
        tell(x, "o10;");
        due(39, "by the order", x.steps(0), 41);
        tell(x, "o;");
        due(39, "of no order", x.steps(0), 0);
        due(39, "all things all the same", x.steps(1), 36);
        tell(x, "o01;");
        x.row(5);
        due(39, "with three numbers", x.steps(0), -3);
        WashAndDry many = with(ALL_KINDS + "t00010101;o6;");
        for (int i = 0; i < 7; i++) {
            many.row(3);
        }
        due(39, "7 things", many.steps(0), 5);
        due(39, "7 are not turned", many.steps(2), -3);
    }

    private static void p40Later() {
        due(40, "none", new WashAndDry().later(0), 0);
        due(40, "none, how long", new WashAndDry().later(1), 0);
        WashAndDry x = with(ALL_KINDS + "o5;");
        due(40, "a soaked one alone", x.later(0), 60);
        due(40, "how long then", x.later(1), 13);
        due(40, "later(2)", x.later(2), -2);
        due(40, "later(-1)", x.later(-1), -2);
        WashAndDry plain = with(SHORT_LONG + "o01;");
        due(40, "none soaked", plain.later(0), 0);
        due(40, "as long as ever", plain.later(1), 12);
        // Washed in 3, begun at 23: 2 by 10 less; 1 at least.
        WashAndDry little = with("t50010305;o0;");
        due(40, "of several the first", little.later(0), 20);
        due(40, "1 at least", little.later(1), 6);
    }

    private static void p41Dear() {
        due(41, "none", new WashAndDry().dear(0, 1, 1), 1);
        WashAndDry x = with(THREE_QUICK + "o012;s2=1;");
        due(41, "dear(4, 1, 1)", x.dear(4, 1, 1), 3);
        due(41, "dear(3, 1, 1)", x.dear(3, 1, 1), -9);
        due(41, "dear(23, 99, 1)", x.dear(23, 99, 1), 2);
        due(41, "of several the least", x.dear(999, 0, 0), 1);
        WashAndDry rack = with("t29030100;t00010101;o01;");
        due(41, "rack 4 is dear", rack.dear(19, 99, 99), 41);
        due(41, "rack 3", rack.dear(20, 1, 0), 31);
        due(41, "rack 0", rack.dear(21, 1, 1), 1);
        due(41, "dear(-1, 100, 0)", x.dear(-1, 100, 0), -4);
        due(41, "dear(1000, -1, 0)", x.dear(1000, -1, 0), -4);
        due(41, "dear(1000, 0, -1)", x.dear(1000, 0, -1), -4);
        due(41, "dear(1000, 0, 0)", x.dear(1000, 0, 0), -6);
        due(41, "dear(0, 100, 0)", x.dear(0, 100, 0), -6);
        due(41, "dear(0, 0, 100)", x.dear(0, 0, 100), -6);
        due(41, "settings stay", x.count(20) * 10 + x.count(23), 62);
        due(41, "the greatest rack", with(PILED).dear(43, 1, 1), 121);
        due(41, "racks for nothing", rack.dear(20, 0, 5), 31);
    }

    private static void p42Over() {
        due(42, "none", new WashAndDry().over(-10, -10, 0), -9);
        WashAndDry x = with(SHORT_LONG + "o10;");
        due(42, "over(0, -10, 0)", x.over(0, -10, 0), 1);
        due(42, "over(0, -10, 1)", x.over(0, -10, 1), 16);
        due(42, "not sooner", x.over(0, 0, 0), -9);
        due(42, "not sooner, when", x.over(10, 10, 1), -9);
        due(42, "both rounded up", x.over(-10, -1, 0), -9);
        WashAndDry pan = with("t00010100;t00010100;t00011301;o012;");
        due(42, "of several the first", pan.over(-10, 0, 0), 1);
        due(42, "washing rounded up", pan.over(-10, 0, 1), 10);
        due(42, "a little less", pan.over(-2, 0, 1), 15);
        due(42, "over(-11, 11, 2)", x.over(-11, 11, 2), -4);
        due(42, "over(11, -11, 2)", x.over(11, -11, 2), -4);
        due(42, "over(11, 0, 2)", x.over(11, 0, 2), -6);
        due(42, "over(0, 11, 2)", x.over(0, 11, 2), -6);
        due(42, "over(0, 0, 2)", x.over(0, 0, 2), -2);
    }

    private static void p43Image() {
        due(43, "none", new WashAndDry().image(), 0);
        due(43, "all kinds", with(ALL_KINDS).image(), 6);
    }

    private static void p44Restore() {
        WashAndDry x = with(SHORT_LONG + "o10;n1;s0=3;");
        due(44, "no image", x.restore(), -3);
        x.image();
        tell(x, ALL_KINDS + "o01234567;s0=9;");
        x.feed('s');
        x.row(7);
        x.put(0);
        x.clear();
        due(44, "restore()", x.restore(), 2);
        due(44, "things", x.count(0), 2);
        due(44, "its order", x.place(0, 0), 1);
        due(44, "its new water", x.place(1, 1), 1);
        due(44, "its rack", x.count(20), 3);
        due(44, "letters stay", x.count(5), 1);
        due(44, "the row stays", x.count(6), 1);
        due(44, "refusals stay", x.count(11) * 10 + x.count(13), 11);
        due(44, "none can be undone", x.undo(), -3);
        x.clear();
        due(44, "restored again", x.restore(), 2);
        due(44, "its order again", x.count(1), 2);
        x.image();
        tell(x, "t00010101;");
        due(44, "a new image", x.restore(), 2);
    }

    private static void p45Count() {
        WashAndDry x = with(ALL_KINDS + "o01;n1;s0=3;s1=4;s2=6;s3=1;s4=7;");
        x.put(2);
        x.row(1);
        x.row(2);
        x.feed('s');
        int[] first = {6, 3, 1, 40, 20, 1, 2, 1};
        for (int what = 0; what < 8; what++) {
            due(45, "count(" + what + ")", x.count(what), first[what]);
        }
        int[] settings = {3, 4, 6, 1, 7};
        for (int s = 0; s < 5; s++) {
            due(45, "count(2" + s + ")", x.count(20 + s), settings[s]);
        }
        x.put(9);
        x.place(0, 9);
        x.place(0, 9);
        x.restore();
        x.row(-1);
        x.row(-1);
        x.row(100);
        int[] refusals = {1, 2, 1, 2, 0, 1};
        for (int r = 0; r < 6; r++) {
            due(45, "count(1" + (r + 1) + ")", x.count(11 + r), refusals[r]);
        }
        int[] others = {-1, 8, 10, 17, 19, 25, Integer.MIN_VALUE, Integer.MAX_VALUE};
        for (int what : others) {
            due(45, "count(" + what + ")", x.count(what), -9);
        }
        due(45, "count() refuses nothing", x.count(12), 2);
    }
}
