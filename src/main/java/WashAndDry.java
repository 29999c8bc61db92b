/**
 * He washes, she dries: the things of a kitchen, the order in which they are washed,
 * and what can be asked of it. ../shared/DOC.md says what each call answers.
 */
public final class WashAndDry {
    private static final int NOBODY = -1;
    private static final int OTHER = -2;
    private static final int STATE = -3;
    private static final int BELOW = -4;
    private static final int ABOVE = -6;
    private static final int NONE = -9;

    private static final int MOST_THINGS = 8;
    private static final int MOST_TURNED = 6;
    private static final int ALL_TURNS = 720;
    private static final int LAST_MINUTE = 999;
    private static final int MOST_GREASE = 99;
    private static final int MOST_ROW = 12;
    private static final int MOST_IN_ROW = 99;
    private static final int MOST_LETTERS = 96;
    private static final int LAST_LETTER = 255;
    private static final int MOST_EVENINGS = 20;
    private static final int WEEK_DAYS = 7;
    private static final int MOST_PRICE = 99;
    private static final int MOST_TWENTIETHS = 10;
    /** Above every minute that any evening can reach. */
    private static final int FAR = 1000000000;

    private static final int GLASS = 1;
    private static final int POT = 2;
    private static final int PAN = 3;
    private static final int FORK = 4;
    private static final int SOAKED = 5;

    private static final int KIND = 0;
    private static final int FIGURE = 1;
    private static final int GREASE = 2;
    private static final int ROOM = 3;
    private static final int WASH = 4;
    private static final int DRY = 5;
    private static final int PARTS = 6;
    private static final int[] LEAST_PART = {0, 0, 0, 1, 1, 0};
    private static final int[] MOST_PART = {5, 9, 9, 3, 20, 20};

    private static final int RACK = 0;
    private static final int NEW = 1;
    private static final int FULL = 2;
    private static final int CLOTHS = 3;
    private static final int STOVE = 4;
    private static final int SETTINGS = 5;
    private static final int MOST_RACK = 12;
    private static final int MOST_CLOTHS = 3;
    private static final int[] LEAST_SETTING = {0, 0, 1, 1, 1};
    private static final int[] MOST_SETTING = {MOST_RACK, 9, 30, MOST_CLOTHS, 60};

    private static final int RULES = 6;

    private final Kitchen now = new Kitchen();
    private final Kitchen trial = new Kitchen();
    private final Kitchen kept = new Kitchen();
    private boolean isKept = false;
    private final Letters letters = new Letters();
    private final Undos undos = new Undos();
    private final Evening evening = new Evening(now.things);
    private final Tries tries = new Tries(now, evening);
    private final Turns turns = new Turns(now, evening);
    private final Hands hands = new Hands(now);
    private final int[] numbers = new int[MOST_ROW];
    private int numberCount = 0;
    private final int[] refused = new int[7];

    public WashAndDry() {
    }

    // ---- letters, things, settings

    public int feed(int letter) {
        if (letter < 0) {
            return refuse(BELOW);
        }
        if (letter > LAST_LETTER || letters.count >= MOST_LETTERS) {
            return refuse(ABOVE);
        }
        return letters.append(letter);
    }

    public int kitchen() {
        trial.become(now);
        int told = letters.tellTo(trial);
        letters.forget();
        if (told > 0) {
            now.become(trial);
            undos.forget();
        }
        return told;
    }

    public int thing(int thing, int what) {
        if (!isThing(thing)) {
            return refuse(NOBODY);
        }
        if (what < 0 || what > 8) {
            return refuse(OTHER);
        }
        switch (what) {
            case 6:
                return now.things.dryTime(thing);
            case 7:
                return now.things.drips(thing) ? 1 : 0;
            case 8:
                return now.order.placeOf(thing);
            default:
                return now.things.part(thing, what);
        }
    }

    public int washing(int thing, int m, int g) {
        if (!isThing(thing)) {
            return refuse(NOBODY);
        }
        if (m < 0 || g < 0) {
            return refuse(BELOW);
        }
        if (m > LAST_MINUTE || g > MOST_GREASE) {
            return refuse(ABOVE);
        }
        return now.things.washTime(thing, m, g);
    }

    public int set(int setting, int v) {
        if (setting < 0 || setting >= SETTINGS) {
            return refuse(NOBODY);
        }
        if (v < Rows.at(LEAST_SETTING, setting)) {
            return refuse(BELOW);
        }
        if (v > Rows.at(MOST_SETTING, setting)) {
            return refuse(ABOVE);
        }
        int old = Rows.at(now.settings, setting);
        Rows.lay(now.settings, setting, v);
        return old;
    }

    // ---- the order

    public int put(int thing) {
        if (!isThing(thing) || now.order.has(thing)) {
            return refuse(NOBODY);
        }
        undos.remember(now.order);
        now.order.append(thing);
        return now.order.size;
    }

    public int take() {
        if (now.order.size == 0) {
            return refuse(STATE);
        }
        undos.remember(now.order);
        now.order.removeLast();
        return now.order.size;
    }

    public int fresh(int place) {
        if (place < 1 || place >= now.order.size) {
            return refuse(NOBODY);
        }
        undos.remember(now.order);
        now.order.toggleNew(place);
        return now.order.isNew(place) ? 1 : 0;
    }

    public int place(int place, int what) {
        if (!isPlace(place)) {
            return refuse(NOBODY);
        }
        if (!isEither(what)) {
            return refuse(OTHER);
        }
        if (what == 0) {
            return now.order.thingAt(place);
        }
        return now.order.isNew(place) ? 1 : 0;
    }

    public int clear() {
        int had = now.order.size;
        // An empty order is not changed by it, so there is nothing to undo.
        if (had > 0) {
            undos.remember(now.order);
            now.order.empty();
        }
        return had;
    }

    public int undo() {
        if (undos.count == 0) {
            return refuse(STATE);
        }
        undos.recall(now.order);
        return undos.count;
    }

    // ---- the order gone through

    public int may() {
        return now.order.mayBe(now.things) ? 1 : 0;
    }

    public int when(int place, int what) {
        if (!isPlace(place)) {
            return refuse(NOBODY);
        }
        if (what < 0 || what > 4) {
            return refuse(OTHER);
        }
        goThrough();
        return evening.minuteOf(place, what);
    }

    public int through() {
        goThrough();
        return evening.end;
    }

    public int waits(int what) {
        if (what < 0 || what > 3) {
            return refuse(OTHER);
        }
        goThrough();
        switch (what) {
            case 0:
                return evening.heWaits;
            case 1:
                return evening.sheWaits;
            case 2:
                return evening.grease;
            default:
                return evening.fullCloths;
        }
    }

    public int wet(int minute) {
        if (minute < 0) {
            return refuse(BELOW);
        }
        if (minute > LAST_MINUTE) {
            return refuse(ABOVE);
        }
        goThrough();
        return evening.wetAt(minute);
    }

    public int judge() {
        goThrough();
        int wrong = NONE;
        for (int i = 0; i < numberCount && wrong == NONE; i++) {
            if (!isPlace(i) || evening.minuteOf(i, Evening.DRIED) != Rows.at(numbers, i)) {
                wrong = i;
            }
        }
        numberCount = 0;
        return wrong;
    }

    public int stopped(int things, int what) {
        if (things < 0) {
            return refuse(BELOW);
        }
        if (things > now.things.allBits()) {
            return refuse(ABOVE);
        }
        if (!isEither(what)) {
            return refuse(OTHER);
        }
        goThrough();
        int first = NONE;
        int often = 0;
        for (int minute = LAST_MINUTE; minute >= 0; minute--) {
            if (evening.wetAt(minute) == things) {
                first = minute;
                often++;
            }
        }
        return what == 0 ? first : often;
    }

    // ---- what would be better

    public int rack(int minute) {
        if (minute < 0) {
            return refuse(BELOW);
        }
        if (minute > LAST_MINUTE) {
            return refuse(ABOVE);
        }
        return tries.leastRack(minute);
    }

    public int water(int what) {
        if (!isEither(what)) {
            return refuse(OTHER);
        }
        tries.findWater();
        return what == 0 ? tries.best.what : tries.best.valueOrNone();
    }

    public int cloths() {
        return tries.enoughCloths();
    }

    public int changed() {
        if (!now.order.mayBe(now.things)) {
            return refuse(STATE);
        }
        tries.findChanged();
        return tries.best.what;
    }

    public int where(int thing) {
        if (!isThing(thing) || now.order.has(thing)) {
            return refuse(NOBODY);
        }
        tries.findWhere(thing);
        return tries.best.what;
    }

    public int tomorrow(int minute, int what) {
        if (minute < 0) {
            return refuse(BELOW);
        }
        if (minute > LAST_MINUTE) {
            return refuse(ABOVE);
        }
        if (!isEither(what)) {
            return refuse(OTHER);
        }
        tries.findLeftOut(minute);
        return what == 0 ? tries.best.what : tries.best.valueOrNone();
    }

    public int later(int what) {
        if (!isEither(what)) {
            return refuse(OTHER);
        }
        tries.findLater();
        return what == 0 ? tries.best.what : tries.best.valueOrNone();
    }

    public int dear(int minute, int a, int b) {
        if (minute < 0 || a < 0 || b < 0) {
            return refuse(BELOW);
        }
        if (minute > LAST_MINUTE || a > MOST_PRICE || b > MOST_PRICE) {
            return refuse(ABOVE);
        }
        tries.findCheapest(minute, a, b);
        return tries.best.what;
    }

    // ---- orders of all things

    public int soonest(int what) {
        if (!isEither(what)) {
            return refuse(OTHER);
        }
        if (!canTurn()) {
            return refuse(STATE);
        }
        turns.findSoonest(false, numbers);
        return what == 0 ? turns.best.valueOrNone() : turns.best.what;
    }

    public int fits(int minute, int things, int what) {
        if (minute < 0 || things < 0) {
            return refuse(BELOW);
        }
        if (minute > LAST_MINUTE || things > now.things.allBits()) {
            return refuse(ABOVE);
        }
        if (!isEither(what)) {
            return refuse(OTHER);
        }
        if (!canTurn()) {
            return refuse(STATE);
        }
        turns.findFitting(minute, things);
        return what == 0 ? turns.fitting : turns.firstFitting;
    }

    public int steps(int what) {
        if (what < 0 || what > 2) {
            return refuse(OTHER);
        }
        if (numberCount != now.things.count || (what > 0 && !canTurn())) {
            return refuse(STATE);
        }
        if (what == 0) {
            goThrough();
            return evening.awayBy(numbers);
        }
        turns.findSoonest(true, numbers);
        return what == 1 ? turns.best.valueOrNone() : turns.best.what;
    }

    public int rule(int rule, int what) {
        if (rule < 0 || rule >= RULES || !isEither(what)) {
            return refuse(OTHER);
        }
        turns.followRule(rule);
        return what == 0 ? turns.order.digits() : turns.endOrNone();
    }

    public int best() {
        turns.findBestRule();
        return turns.best.what;
    }

    public int seeds(int n, int z, int what) {
        if (n < 1) {
            return refuse(BELOW);
        }
        if (n > MOST_EVENINGS) {
            return refuse(ABOVE);
        }
        if (!isEither(what)) {
            return refuse(OTHER);
        }
        if (now.things.count == 0) {
            return refuse(STATE);
        }
        turns.drawEvenings(n, z);
        return what == 0 ? turns.drawnThatMay : turns.drawnEnds;
    }

    // ---- hands with room enough

    public int hands(int what) {
        if (!isEither(what)) {
            return refuse(OTHER);
        }
        hands.orderTwoHands();
        return what == 0 ? hands.order.digits() : hands.endOfTwo(hands.order, MOST_THINGS, 0, 0);
    }

    public int either() {
        return hands.endOfEither();
    }

    public int alone(int what) {
        if (!isEither(what)) {
            return refuse(OTHER);
        }
        if (now.things.count == 0) {
            return refuse(STATE);
        }
        hands.findAlone();
        return what == 0 ? hands.best.what : hands.best.valueOrNone();
    }

    public int third() {
        return hands.endOfThree();
    }

    public int picked(int what) {
        if (!isEither(what)) {
            // Below 0 is an answer here, so a refusal is told far above.
            return FAR - refuse(OTHER);
        }
        hands.findPicked();
        return what == 0 ? hands.pickedLess() : hands.best.what;
    }

    public int over(int s, int h, int what) {
        if (s < -MOST_TWENTIETHS || h < -MOST_TWENTIETHS) {
            return refuse(BELOW);
        }
        if (s > MOST_TWENTIETHS || h > MOST_TWENTIETHS) {
            return refuse(ABOVE);
        }
        if (!isEither(what)) {
            return refuse(OTHER);
        }
        hands.findChangeOver(s, h);
        return what == 0 ? hands.best.what : hands.best.valueOrNone();
    }

    // ---- the row

    public int row(int v) {
        if (v < 0) {
            return refuse(BELOW);
        }
        if (v > MOST_IN_ROW || numberCount >= MOST_ROW) {
            return refuse(ABOVE);
        }
        Rows.lay(numbers, numberCount, v);
        numberCount++;
        return numberCount;
    }

    public int drop() {
        int had = numberCount;
        numberCount = 0;
        return had;
    }

    public int week(int what) {
        if (!isEither(what)) {
            return refuse(OTHER);
        }
        if (numberCount != WEEK_DAYS) {
            return refuse(STATE);
        }
        hands.findWeek(numbers);
        return what == 0 ? hands.best.what : hands.best.valueOrNone();
    }

    // ---- the image, and what is counted

    public int image() {
        kept.become(now);
        isKept = true;
        return now.things.count;
    }

    public int restore() {
        if (!isKept) {
            return refuse(STATE);
        }
        now.become(kept);
        undos.forget();
        return now.things.count;
    }

    public int count(int what) {
        if (what >= 20 && what < 20 + SETTINGS) {
            return Rows.at(now.settings, what - 20);
        }
        if (what >= 11 && what <= 16) {
            return Rows.at(refused, what - 10);
        }
        switch (what) {
            case 0:
                return now.things.count;
            case 1:
                return now.order.size;
            case 2:
                return Integer.bitCount(now.order.newBits);
            case 3:
                return now.things.sumOf(WASH);
            case 4:
                return now.things.sumOf(DRY);
            case 5:
                return letters.count;
            case 6:
                return numberCount;
            case 7:
                return undos.count;
            default:
                return NONE;
        }
    }

    // ---- what the calls share

    private int refuse(int number) {
        Rows.lay(refused, -number, Rows.at(refused, -number) + 1);
        return number;
    }

    private boolean isThing(int thing) {
        return thing >= 0 && thing < now.things.count;
    }

    private boolean isPlace(int place) {
        return place >= 0 && place < now.order.size;
    }

    private boolean isEither(int what) {
        return what == 0 || what == 1;
    }

    private boolean canTurn() {
        return now.things.count > 0 && now.things.count <= MOST_TURNED;
    }

    private void goThrough() {
        evening.go(now.order, now.settings, 0);
    }

    /** Rows of numbers, looked at and changed only where they have a place. */
    static final class Rows {
        private Rows() {
        }

        static int at(int[] cells, int i) {
            return cells != null && i >= 0 && i < cells.length ? cells[i] : 0;
        }

        static void lay(int[] cells, int i, int v) {
            if (cells != null && i >= 0 && i < cells.length) {
                cells[i] = v;
            }
        }

        static void copy(int[] from, int[] to, int cells) {
            for (int i = 0; i < cells; i++) {
                lay(to, i, at(from, i));
            }
        }
    }

    /** What is offered is kept if it is less than all ahead of it: of several the first. */
    static final class Best {
        private int what = NONE;
        private int value = FAR;

        void open(int limit) {
            what = NONE;
            value = limit;
        }

        void offer(int newWhat, int newValue) {
            if (newValue < value) {
                what = newWhat;
                value = newValue;
            }
        }

        int valueOrNone() {
            return what == NONE ? NONE : value;
        }
    }

    /** The things as they came to be, and how long each takes. */
    static final class Things {
        private final int[] parts = new int[MOST_THINGS * PARTS];
        private int count = 0;

        int part(int thing, int part) {
            int i = thing * PARTS + part;
            return i >= 0 && i < parts.length ? parts[i] : 0;
        }

        void setPart(int thing, int part, int v) {
            Rows.lay(parts, thing * PARTS + part, v);
        }

        int allBits() {
            return (1 << count) - 1;
        }

        int sumOf(int part) {
            int sum = 0;
            for (int thing = 0; thing < count; thing++) {
                sum += part(thing, part);
            }
            return sum;
        }

        int washTime(int thing, int minute, int grease) {
            int likeThing = part(thing, WASH) + grease / 5;
            int likePot = likeThing + part(thing, FIGURE);
            int time;
            switch (part(thing, KIND)) {
                case GLASS:
                    time = part(thing, WASH);
                    break;
                case POT:
                    time = likePot;
                    break;
                case PAN:
                    time = likePot + grease / 2;
                    break;
                case FORK:
                    time = likeThing / 2;
                    break;
                case SOAKED:
                    time = likePot - minute / 10;
                    break;
                default:
                    time = likeThing;
                    break;
            }
            return Math.max(1, time);
        }

        int cleanWashTime(int thing) {
            return washTime(thing, 0, 0);
        }

        int dryTime(int thing) {
            return part(thing, DRY) + (part(thing, KIND) == GLASS ? 1 : 0);
        }

        int bothTimes(int thing) {
            return cleanWashTime(thing) + dryTime(thing);
        }

        boolean drips(int thing) {
            int kind = part(thing, KIND);
            return (kind == POT || kind == PAN || kind == SOAKED) && part(thing, DRY) == 0;
        }

        void become(Things other) {
            count = other.count;
            Rows.copy(other.parts, parts, MOST_THINGS * PARTS);
        }
    }

    /** Things one behind the other, none twice, and ahead of which there is new water. */
    static final class Order {
        private final int[] places = new int[MOST_THINGS];
        private int size = 0;
        private int newBits = 0;

        int thingAt(int place) {
            return place >= 0 && place < places.length ? places[place] : 0;
        }

        boolean isNew(int place) {
            return (newBits >> place & 1) == 1;
        }

        int placeOf(int thing) {
            for (int place = 0; place < size; place++) {
                if (thingAt(place) == thing) {
                    return place;
                }
            }
            return NONE;
        }

        boolean has(int thing) {
            return placeOf(thing) != NONE;
        }

        int thingBits() {
            int bits = 0;
            for (int place = 0; place < size; place++) {
                bits |= 1 << thingAt(place);
            }
            return bits;
        }

        /** The first thing is the lowest digit. */
        int digits() {
            int all = 0;
            for (int place = size - 1; place >= 0; place--) {
                all = all * 10 + thingAt(place);
            }
            return all;
        }

        boolean mayBe(Things things) {
            boolean panWater = false;
            for (int place = 0; place < size; place++) {
                int kind = things.part(thingAt(place), KIND);
                panWater = panWater && !isNew(place);
                if (panWater && kind == GLASS) {
                    return false;
                }
                panWater = panWater || kind == PAN;
            }
            return true;
        }

        void empty() {
            size = 0;
            newBits = 0;
        }

        void append(int thing) {
            if (size < MOST_THINGS) {
                Rows.lay(places, size, thing);
                size++;
            }
        }

        void removeLast() {
            if (size > 0) {
                size--;
                newBits &= (1 << size) - 1;
            }
        }

        void toggleNew(int place) {
            newBits ^= 1 << place;
        }

        void exchange(int one, int other) {
            int thing = thingAt(one);
            Rows.lay(places, one, thingAt(other));
            Rows.lay(places, other, thing);
        }

        /** The other order with one thing more; the places behind it keep their new water. */
        void becomeWith(Order other, int place, int thing) {
            empty();
            for (int p = 0; p < place; p++) {
                append(other.thingAt(p));
            }
            append(thing);
            for (int p = place; p < other.size; p++) {
                append(other.thingAt(p));
            }
            int ahead = (1 << place) - 1;
            newBits = other.newBits & ahead | (other.newBits & ~ahead) << 1;
        }

        /** The other order without some things; what comes foremost has no new water. */
        void becomeWithout(Order other, int leftOut) {
            empty();
            for (int p = 0; p < other.size; p++) {
                int thing = other.thingAt(p);
                if ((leftOut >> thing & 1) == 0) {
                    if (other.isNew(p) && size > 0) {
                        newBits |= 1 << size;
                    }
                    append(thing);
                }
            }
        }

        void become(Order other) {
            size = other.size;
            newBits = other.newBits;
            Rows.copy(other.places, places, MOST_THINGS);
        }

        void becomeFirst(int things) {
            empty();
            for (int thing = 0; thing < things; thing++) {
                append(thing);
            }
        }

        /** Goes on to the next order by things one behind the other; false behind the last. */
        boolean becomeNext() {
            int pivot = size - 2;
            while (pivot >= 0 && thingAt(pivot) >= thingAt(pivot + 1)) {
                pivot--;
            }
            if (pivot < 0) {
                return false;
            }
            int partner = size - 1;
            while (partner > pivot && thingAt(partner) <= thingAt(pivot)) {
                partner--;
            }
            exchange(pivot, partner);
            for (int low = pivot + 1, high = size - 1; low < high; low++, high--) {
                exchange(low, high);
            }
            return true;
        }

        /** All things by their keys rising, of like ones the least number first. */
        void becomeSorted(int[] keys, int things) {
            becomeFirst(things);
            for (int end = 1; end < size; end++) {
                for (int p = end; p > 0 && keyAt(keys, p) < keyAt(keys, p - 1); p--) {
                    exchange(p, p - 1);
                }
            }
        }

        private int keyAt(int[] keys, int place) {
            return Rows.at(keys, thingAt(place));
        }
    }

    /** All that an image holds. */
    static final class Kitchen {
        private final Things things = new Things();
        private final Order order = new Order();
        private final int[] settings = {6, 2, 5, 2, 20};

        void become(Kitchen other) {
            things.become(other.things);
            order.become(other.order);
            Rows.copy(other.settings, settings, SETTINGS);
        }
    }

    /** The orders as they were ahead of the last changes. */
    static final class Undos {
        private static final int MOST = 8;
        private final Order[] orders = new Order[MOST];
        private int next = 0;
        private int count = 0;

        Undos() {
            for (int i = 0; i < orders.length; i++) {
                orders[i] = new Order();
            }
        }

        void remember(Order order) {
            Order slot = slotAt(next);
            if (slot != null) {
                slot.become(order);
                next = (next + 1) % MOST;
                count = Math.min(count + 1, MOST);
            }
        }

        void recall(Order order) {
            int last = (next + MOST - 1) % MOST;
            Order slot = slotAt(last);
            if (slot != null && count > 0) {
                order.become(slot);
                next = last;
                count--;
            }
        }

        void forget() {
            count = 0;
        }

        private Order slotAt(int i) {
            return i >= 0 && i < orders.length ? orders[i] : null;
        }
    }

    /** The letters in which a kitchen is told. */
    static final class Letters {
        private static final int BROKEN = -1000;
        private static final int WRONG = -2000;
        private final int[] letters = new int[MOST_LETTERS];
        private int count = 0;

        int append(int letter) {
            if (count < MOST_LETTERS) {
                Rows.lay(letters, count, letter);
                count++;
            }
            return count;
        }

        void forget() {
            count = 0;
        }

        /** How many statements came to the kitchen, or the fault; with a fault it is spoilt. */
        int tellTo(Kitchen kitchen) {
            int statements = 0;
            int from = 0;
            for (int looks = 0; looks <= MOST_LETTERS && (statements == 0 || from < count); looks++) {
                from = behindStatement(from);
                if (from < 0) {
                    return from;
                }
                statements++;
            }
            from = 0;
            for (int told = 0; told < statements; told++) {
                int behind = behindStatement(from);
                if (!tellStatement(kitchen, from, behind - 1)) {
                    return WRONG - from;
                }
                from = behind;
            }
            return statements;
        }

        /** The place behind the statement that begins here, or the fault. */
        private int behindStatement(int from) {
            int head = letterAt(from);
            int most = mostDigits(head);
            if (most == 0) {
                return BROKEN - from;
            }
            int p = from + 1;
            if (head == 's') {
                if (!isDigit(p)) {
                    return BROKEN - p;
                }
                p++;
                if (letterAt(p) != '=') {
                    return BROKEN - p;
                }
                p++;
            }
            int digits = 0;
            while (digits < most && isDigit(p)) {
                digits++;
                p++;
            }
            if (digits < leastDigits(head) || letterAt(p) != ';') {
                return BROKEN - p;
            }
            return p + 1;
        }

        private int mostDigits(int head) {
            switch (head) {
                case 's':
                    return 2;
                case 't':
                case 'o':
                    return 8;
                case 'n':
                    return 1;
                default:
                    return 0;
            }
        }

        private int leastDigits(int head) {
            switch (head) {
                case 'o':
                    return 0;
                case 't':
                    return 8;
                default:
                    return 1;
            }
        }

        /** Whether the statement is as it must be; its ";" is at the end. */
        private boolean tellStatement(Kitchen kitchen, int from, int end) {
            switch (letterAt(from)) {
                case 's':
                    return tellSetting(kitchen, number(from + 1, 1), number(from + 3, end - from - 3));
                case 't':
                    return tellThing(kitchen.things, from + 1);
                case 'o':
                    return tellOrder(kitchen, from + 1, end);
                case 'n':
                    return tellNew(kitchen.order, number(from + 1, 1));
                default:
                    return false;
            }
        }

        private boolean tellSetting(Kitchen kitchen, int setting, int v) {
            if (setting >= SETTINGS || v < Rows.at(LEAST_SETTING, setting) || v > Rows.at(MOST_SETTING, setting)) {
                return false;
            }
            Rows.lay(kitchen.settings, setting, v);
            return true;
        }

        private boolean tellThing(Things things, int from) {
            if (things.count >= MOST_THINGS) {
                return false;
            }
            int p = from;
            for (int part = 0; part < PARTS; part++) {
                int digits = part == WASH || part == DRY ? 2 : 1;
                int v = number(p, digits);
                if (v < Rows.at(LEAST_PART, part) || v > Rows.at(MOST_PART, part)) {
                    return false;
                }
                things.setPart(things.count, part, v);
                p += digits;
            }
            things.count++;
            return true;
        }

        private boolean tellOrder(Kitchen kitchen, int from, int end) {
            kitchen.order.empty();
            for (int p = from; p < end; p++) {
                int thing = number(p, 1);
                if (thing >= kitchen.things.count || kitchen.order.has(thing)) {
                    return false;
                }
                kitchen.order.append(thing);
            }
            return true;
        }

        private boolean tellNew(Order order, int place) {
            if (place < 1 || place >= order.size) {
                return false;
            }
            order.toggleNew(place);
            return true;
        }

        private int number(int from, int digits) {
            int v = 0;
            for (int p = from; p < from + digits; p++) {
                v = v * 10 + letterAt(p) - '0';
            }
            return v;
        }

        private boolean isDigit(int p) {
            int letter = letterAt(p);
            return letter >= '0' && letter <= '9';
        }

        private int letterAt(int p) {
            return p < count ? Rows.at(letters, p) : -1;
        }
    }

    /** An order gone through thing by thing. */
    static final class Evening {
        private static final int BEGUN = 0;
        private static final int WASHED = 1;
        private static final int DOWN = 2;
        private static final int TAKEN = 3;
        private static final int DRIED = 4;
        private static final int MOMENTS = 5;
        private final Things things;
        private final int[] minutes = new int[MOST_THINGS * MOMENTS];
        private final int[] gone = new int[MOST_THINGS];
        private final int[] clothDry = new int[MOST_CLOTHS];
        private int size = 0;
        private int heFree = 0;
        private int sheFree = 0;
        private int cloth = 0;
        private int driedByCloth = 0;
        private int heWaits = 0;
        private int sheWaits = 0;
        private int grease = 0;
        private int fullCloths = 0;
        private int end = 0;

        Evening(Things things) {
            this.things = things;
        }

        void go(Order order, int[] settings, int start) {
            begin(start);
            for (int place = 0; place < order.size; place++) {
                int thing = order.thingAt(place);
                Rows.lay(gone, place, thing);
                if (order.isNew(place)) {
                    heFree += Rows.at(settings, NEW);
                    grease = 0;
                }
                wash(place, thing);
                setDown(place, thing, Rows.at(settings, RACK));
                if (driedByCloth >= Rows.at(settings, FULL)) {
                    hangCloth(Rows.at(settings, STOVE), Rows.at(settings, CLOTHS));
                }
                size++;
            }
        }

        /** The minute by which all are dry, or FAR if the order may not be. */
        int endIfMay(Order order, int[] settings) {
            if (!order.mayBe(things)) {
                return FAR;
            }
            go(order, settings, 0);
            return end;
        }

        int minuteOf(int place, int moment) {
            int i = place * MOMENTS + moment;
            return i >= 0 && i < minutes.length ? minutes[i] : 0;
        }

        int wetAt(int minute) {
            int bits = 0;
            for (int place = 0; place < size; place++) {
                if (minuteOf(place, WASHED) <= minute && minuteOf(place, DRIED) > minute) {
                    bits |= 1 << Rows.at(gone, place);
                }
            }
            return bits;
        }

        /** When a third hand has put all away, each thing as long as its number tells. */
        int awayBy(int[] howLong) {
            int away = 0;
            for (int place = 0; place < size; place++) {
                away = Math.max(away, minuteOf(place, DRIED)) + Rows.at(howLong, Rows.at(gone, place));
            }
            return away;
        }

        private void begin(int start) {
            size = 0;
            heFree = start;
            sheFree = start;
            cloth = 0;
            driedByCloth = 0;
            heWaits = 0;
            sheWaits = 0;
            grease = 0;
            fullCloths = 0;
            end = start;
            for (int c = 0; c < MOST_CLOTHS; c++) {
                Rows.lay(clothDry, c, 0);
            }
        }

        private void note(int place, int moment, int minute) {
            int i = place * MOMENTS + moment;
            if (i >= 0 && i < minutes.length) {
                minutes[i] = minute;
            }
        }

        private void wash(int place, int thing) {
            note(place, BEGUN, heFree);
            heFree += things.washTime(thing, heFree, grease);
            note(place, WASHED, heFree);
            grease += things.part(thing, GREASE);
        }

        private void setDown(int place, int thing, int rack) {
            boolean held = things.part(thing, ROOM) > rack;
            int ready = held ? heFree : roomFrom(place, thing, rack);
            int leaves;
            if (things.drips(thing)) {
                leaves = ready + things.part(thing, FIGURE);
                note(place, DRIED, leaves);
            } else {
                leaves = Math.max(ready, Math.max(sheFree, Rows.at(clothDry, cloth)));
                dry(place, leaves, things.dryTime(thing));
            }
            int down = held ? leaves : ready;
            note(place, DOWN, down);
            note(place, TAKEN, leaves);
            end = Math.max(end, minuteOf(place, DRIED));
            heWaits += down - heFree;
            heFree = down;
        }

        /** The first minute, from when he is free, at which the rack has room for it. */
        private int roomFrom(int place, int thing, int rack) {
            int minute = heFree;
            for (int looks = 0; looks <= place; looks++) {
                int room = things.part(thing, ROOM);
                int nextLeaves = FAR;
                for (int p = 0; p < place; p++) {
                    int leaves = minuteOf(p, TAKEN);
                    if (leaves > minute) {
                        room += things.part(Rows.at(gone, p), ROOM);
                        nextLeaves = Math.min(nextLeaves, leaves);
                    }
                }
                if (room <= rack) {
                    return minute;
                }
                minute = nextLeaves;
            }
            return minute;
        }

        private void dry(int place, int minute, int time) {
            sheWaits += minute - sheFree;
            sheFree = minute + time;
            note(place, DRIED, sheFree);
            driedByCloth++;
        }

        /** Her cloth is full as she is free: it hangs by the stove, and she has another. */
        private void hangCloth(int stove, int cloths) {
            fullCloths++;
            driedByCloth = 0;
            Rows.lay(clothDry, cloth, sheFree + stove);
            cloth = 0;
            for (int c = 1; c < cloths; c++) {
                if (Rows.at(clothDry, c) < Rows.at(clothDry, cloth)) {
                    cloth = c;
                }
            }
        }
    }

    /** The order that is, with one thing about it tried otherwise. */
    static final class Tries {
        private static final int LAST_START = 60;
        private final Kitchen kitchen;
        private final Evening evening;
        private final Best best = new Best();
        private final Order order = new Order();
        private final int[] settings = new int[SETTINGS];

        Tries(Kitchen kitchen, Evening evening) {
            this.kitchen = kitchen;
            this.evening = evening;
        }

        int leastRack(int minute) {
            int cloths = Rows.at(kitchen.settings, CLOTHS);
            for (int rack = 0; rack <= MOST_RACK; rack++) {
                if (endWith(rack, cloths) <= minute) {
                    return rack;
                }
            }
            return NONE;
        }

        int enoughCloths() {
            int rack = Rows.at(kitchen.settings, RACK);
            int soonest = endWith(rack, MOST_CLOTHS);
            for (int cloths = 1; cloths < MOST_CLOTHS; cloths++) {
                if (endWith(rack, cloths) <= soonest) {
                    return cloths;
                }
            }
            return MOST_CLOTHS;
        }

        void findCheapest(int minute, int rackPrice, int clothPrice) {
            best.open(FAR);
            for (int rack = 0; rack <= MOST_RACK; rack++) {
                for (int cloths = 1; cloths <= MOST_CLOTHS; cloths++) {
                    if (endWith(rack, cloths) <= minute) {
                        best.offer(10 * rack + cloths, rackPrice * rack + clothPrice * cloths);
                    }
                }
            }
        }

        void findWater() {
            best.open(FAR);
            order.become(kitchen.order);
            // New water is never ahead of place 0: the bits go up by 2.
            for (int bits = 0; bits < 1 << order.size; bits += 2) {
                order.newBits = bits;
                best.offer(bits, evening.endIfMay(order, kitchen.settings));
            }
        }

        void findChanged() {
            evening.go(kitchen.order, kitchen.settings, 0);
            best.open(evening.end);
            for (int one = 0; one < kitchen.order.size; one++) {
                for (int other = one + 1; other < kitchen.order.size; other++) {
                    order.become(kitchen.order);
                    order.exchange(one, other);
                    best.offer(10 * one + other, evening.endIfMay(order, kitchen.settings));
                }
            }
        }

        void findWhere(int thing) {
            best.open(FAR);
            for (int place = 0; place <= kitchen.order.size; place++) {
                order.becomeWith(kitchen.order, place, thing);
                best.offer(place, evening.endIfMay(order, kitchen.settings));
            }
        }

        void findLeftOut(int minute) {
            best.open(FAR);
            int ordered = kitchen.order.thingBits();
            for (int bits = 0; bits <= ordered; bits++) {
                if ((bits & ~ordered) == 0) {
                    order.becomeWithout(kitchen.order, bits);
                    if (evening.endIfMay(order, kitchen.settings) <= minute) {
                        best.offer(bits, Integer.bitCount(bits));
                    }
                }
            }
        }

        void findLater() {
            best.open(FAR);
            for (int start = 0; start <= LAST_START; start++) {
                evening.go(kitchen.order, kitchen.settings, start);
                best.offer(start, evening.end - start);
            }
        }

        private int endWith(int rack, int cloths) {
            Rows.copy(kitchen.settings, settings, SETTINGS);
            Rows.lay(settings, RACK, rack);
            Rows.lay(settings, CLOTHS, cloths);
            evening.go(kitchen.order, settings, 0);
            return evening.end;
        }
    }

    /** Orders of all things, without new water. */
    static final class Turns {
        private static final int PANS_LAST = 5;
        private static final int WITHOUT_SIGN = 0x7fffffff;
        private final Kitchen kitchen;
        private final Evening evening;
        private final Best best = new Best();
        private final Order order = new Order();
        private final int[] keys = new int[MOST_THINGS];
        private int fitting = 0;
        private int firstFitting = NONE;
        private int seed = 0;
        private int drawnThatMay = 0;
        private int drawnEnds = 0;

        Turns(Kitchen kitchen, Evening evening) {
            this.kitchen = kitchen;
            this.evening = evening;
        }

        /** The soonest order, be it that all are dry or that all are away. */
        void findSoonest(boolean away, int[] numbers) {
            best.open(FAR);
            order.becomeFirst(kitchen.things.count);
            boolean more = true;
            for (int turn = 0; turn < ALL_TURNS && more; turn++) {
                int end = evening.endIfMay(order, kitchen.settings);
                if (end < FAR) {
                    best.offer(order.digits(), away ? evening.awayBy(numbers) : end);
                }
                more = order.becomeNext();
            }
        }

        void findFitting(int minute, int things) {
            fitting = 0;
            firstFitting = NONE;
            order.becomeFirst(kitchen.things.count);
            boolean more = true;
            for (int turn = 0; turn < ALL_TURNS && more; turn++) {
                int end = evening.endIfMay(order, kitchen.settings);
                if (end < FAR && evening.wetAt(minute) == things) {
                    fitting++;
                    firstFitting = fitting == 1 ? order.digits() : firstFitting;
                }
                more = order.becomeNext();
            }
        }

        void followRule(int rule) {
            for (int thing = 0; thing < kitchen.things.count; thing++) {
                Rows.lay(keys, thing, ruleKey(rule, thing));
            }
            order.becomeSorted(keys, kitchen.things.count);
        }

        void findBestRule() {
            best.open(FAR);
            for (int rule = 0; rule < RULES; rule++) {
                followRule(rule);
                best.offer(rule, evening.endIfMay(order, kitchen.settings));
            }
        }

        int endOrNone() {
            int end = evening.endIfMay(order, kitchen.settings);
            return end < FAR ? end : NONE;
        }

        void drawEvenings(int evenings, int z) {
            seed = z;
            drawnThatMay = 0;
            drawnEnds = 0;
            for (int i = 0; i < evenings; i++) {
                drawOrder();
                int end = evening.endIfMay(order, kitchen.settings);
                if (end < FAR) {
                    drawnThatMay++;
                    drawnEnds += end;
                }
            }
        }

        private int ruleKey(int rule, int thing) {
            Things things = kitchen.things;
            switch (rule) {
                case 1:
                    return -things.cleanWashTime(thing);
                case 2:
                    return things.cleanWashTime(thing);
                case 3:
                    return -things.dryTime(thing);
                case 4:
                    return things.part(thing, GREASE);
                case PANS_LAST:
                    return things.part(thing, GREASE) + (things.part(thing, KIND) == PAN ? FAR : 0);
                default:
                    return thing;
            }
        }

        private void drawOrder() {
            order.empty();
            int left = kitchen.things.allBits();
            for (int many = kitchen.things.count; many > 0; many--) {
                int drawn = bitOf(left, draw(many));
                order.append(drawn);
                left &= ~(1 << drawn);
            }
        }

        private int draw(int below) {
            seed = seed * 1103515245 + 12345;
            return below > 0 ? (seed & WITHOUT_SIGN) / 65536 % below : 0;
        }

        /** The number of the bit that has so many bits below it. */
        private int bitOf(int bits, int below) {
            int seen = 0;
            for (int bit = 0; bit < MOST_THINGS; bit++) {
                if ((bits >> bit & 1) == 1) {
                    if (seen == below) {
                        return bit;
                    }
                    seen++;
                }
            }
            return 0;
        }
    }

    /** Who does what, with room enough, clean water and dry cloths. */
    static final class Hands {
        private final Kitchen kitchen;
        private final Things things;
        private final Best best = new Best();
        private final Order order = new Order();
        private final int[] keys = new int[MOST_THINGS];
        private final int[] moreByBits = new int[1 << MOST_THINGS];

        Hands(Kitchen kitchen) {
            this.kitchen = kitchen;
            this.things = kitchen.things;
        }

        void orderTwoHands() {
            for (int thing = 0; thing < things.count; thing++) {
                int wash = things.cleanWashTime(thing);
                int dry = things.dryTime(thing);
                Rows.lay(keys, thing, wash <= dry ? wash : FAR - dry);
            }
            order.becomeSorted(keys, things.count);
        }

        /** From a place on washing takes s twentieths more and drying h. */
        int endOfTwo(Order gone, int from, int s, int h) {
            int he = 0;
            int she = 0;
            for (int place = 0; place < gone.size; place++) {
                int thing = gone.thingAt(place);
                boolean over = place >= from;
                he += twentieths(things.cleanWashTime(thing), over ? s : 0);
                if (!things.drips(thing)) {
                    she = Math.max(he, she) + twentieths(things.dryTime(thing), over ? h : 0);
                }
            }
            return Math.max(he, she);
        }

        void findChangeOver(int s, int h) {
            best.open(endOfTwo(kitchen.order, MOST_THINGS, 0, 0));
            for (int place = 1; place < kitchen.order.size; place++) {
                best.offer(place, endOfTwo(kitchen.order, place, s, h));
            }
        }

        int endOfEither() {
            int all = 0;
            int longest = 0;
            for (int thing = 0; thing < things.count; thing++) {
                int both = things.bothTimes(thing);
                all += both;
                longest = Math.max(longest, both);
            }
            return Math.max(longest, (all + 1) / 2);
        }

        void findAlone() {
            best.open(FAR);
            int all = timeOf(things.allBits());
            for (int bits = 1; bits <= things.allBits(); bits += 2) {
                int one = timeOf(bits);
                best.offer(bits, Math.max(one, all - one));
            }
        }

        int endOfThree() {
            int one = 0;
            int other = 0;
            int she = 0;
            int end = 0;
            for (int place = 0; place < kitchen.order.size; place++) {
                int thing = kitchen.order.thingAt(place);
                int washed = Math.min(one, other) + things.cleanWashTime(thing);
                other = Math.max(one, other);
                one = washed;
                if (!things.drips(thing)) {
                    she = Math.max(washed, she) + things.dryTime(thing);
                }
                end = Math.max(end, Math.max(washed, she));
            }
            return end;
        }

        void findPicked() {
            best.open(FAR);
            Rows.lay(moreByBits, 0, 0);
            for (int bits = 1; bits <= things.allBits(); bits++) {
                best.open(FAR);
                for (int thing = 0; thing < things.count; thing++) {
                    int bit = 1 << thing;
                    if ((bits & bit) != 0) {
                        // Who takes next is the other one: what he has more is had less here.
                        best.offer(thing, things.bothTimes(thing) - Rows.at(moreByBits, bits & ~bit));
                    }
                }
                Rows.lay(moreByBits, bits, best.value);
            }
        }

        int pickedLess() {
            return -Rows.at(moreByBits, things.allBits());
        }

        void findWeek(int[] numbers) {
            best.open(FAR);
            for (int bits = 1; bits < 1 << WEEK_DAYS; bits += 2) {
                int apart = 0;
                for (int day = 0; day < WEEK_DAYS; day++) {
                    int loath = Rows.at(numbers, day);
                    apart += (bits >> day & 1) == 1 ? loath : -loath;
                }
                best.offer(bits, Math.abs(apart));
            }
        }

        private int timeOf(int bits) {
            int time = 0;
            for (int thing = 0; thing < things.count; thing++) {
                if ((bits >> thing & 1) == 1) {
                    time += things.bothTimes(thing);
                }
            }
            return time;
        }

        /** So many twentieths more, rounded up. */
        private int twentieths(int time, int more) {
            return (time * (20 + more) + 19) / 20;
        }
    }
}
