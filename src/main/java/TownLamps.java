/**
 * A town's lamps, as ../shared/DOC.md tells it. Words in capitals are the document's own.
 *
 * <p>Every row that a call needs is made here in the constructors and used again, because all
 * calls of a run share one room: no call makes an object or an array.
 */
public final class TownLamps {
    public static final int BAD = -1000000001, NO = -1000000002, FULL = -1000000003, NONE = -1000000005, NOTHING = -1000000011, KIND = -1000000012, INDEX = -1000000013, SIZE = -1000000014;

    private static final int CABINETS_MOST = 3;
    private static final int JOINTS_MOST = 12;
    private static final int LAMPS_MOST = 16;
    private static final int CHOSEN_MOST = 8;
    private static final int STOPS_MOST = 6;
    private static final int TEXTS_MOST = 14;
    private static final int TAPE_MOST = 96;
    private static final int WAITING_MOST = 60;
    private static final int SHEETS = 4;
    private static final int SLOTS = 5;
    private static final int PLACES_MOST = 24;
    private static final int CLASSES = 4;
    private static final int KINDS = 6;
    private static final int KEYS = 4;

    private static final int HOURS_OF_DAY = 24;
    private static final int DAY_LAST = 999;
    private static final int BURNT_MOST = 30000;
    private static final int PAID_MOST = 99999999;
    private static final int FLOAT_MOST = 99999;
    /** A feed from here on is a CABINET's number and this; below it is a JOINT's number. */
    private static final int CABINET_FEED = 100;

    private static final int LAMP = 0;
    private static final int DIMMED = 1;
    private static final int SIGN = 2;
    private static final int SENSOR = 3;
    private static final int FEAST = 4;
    private static final int TUBE = 5;
    private static final int[] KIND_ABOVE = {-1, 0, 0, 1, 2, 0};

    private static final int DIM = 0;
    private static final int LIFE = 1;
    private static final int PRICE = 2;
    private static final int LAW = 3;

    private static final int SORT_MISSING = -1;
    private static final int SORT_SHORTS = 0;
    private static final int SORT_FLOATS = 1;

    private static final int HOLDS_NOTHING = 0;
    private static final int HOLDS_LAMP = 1;
    private static final int HOLDS_SHEET = 2;
    private static final int HOLDS_NUMBER = 3;

    private final Book book = new Book();
    private final Reader reader = new Reader();
    private final Town now = new Town(book);
    private final Town image = new Town(book);
    /** A town to let HOURS go by in where nothing may change. */
    private final Town trial = new Town(book);
    private boolean hasImage = false;
    private final Faults faults = new Faults();
    private final Walk walk = new Walk();
    private final Sheet[] sheets = new Sheet[SHEETS];
    private final Slot[] slots = new Slot[SLOTS];
    private final int[] waiting = new int[WAITING_MOST];
    private int waitingCount = 0;
    private final int[] chosenDraws = new int[CHOSEN_MOST];
    private final int[] lives = new int[LAMPS_MOST];

    public TownLamps() {
        for (int i = 0; i < SHEETS; i++) {
            sheets[i] = new Sheet();
        }
        for (int i = 0; i < SLOTS; i++) {
            slots[i] = new Slot();
        }
    }

    // ---- cabinets, joints, lamps

    public int cabinet(int place, int clock) {
        if (!isPlace(place) || !isClock(clock)) {
            return BAD;
        }
        if (now.cabinetCount >= CABINETS_MOST) {
            return FULL;
        }
        int number = now.cabinetCount;
        now.cabinets[number].begin(place, clock / 100, clock % 100);
        now.cabinetCount = number + 1;
        return number;
    }

    public int cabinetTold(int cabinet, int what) {
        if (!now.hasCabinet(cabinet)) {
            return BAD;
        }
        Cabinet c = now.cabinets[cabinet];
        switch (what) {
            case 0: return c.place;
            case 1: return c.on;
            case 2: return c.off;
            case 3: return c.shift;
            case 4: return bit(c.isNight(now.hour));
            case 5: return bit(c.broken);
            case 6: return now.due(cabinet);
            case 7: return now.drawn(cabinet);
            case 8: return c.paid;
            default: return BAD;
        }
    }

    public int shift(int cabinet, int v) {
        if (!now.hasCabinet(cabinet) || v < -3 || v > 3) {
            return BAD;
        }
        int was = now.cabinets[cabinet].shift;
        now.cabinets[cabinet].shift = v;
        return was;
    }

    public int joint(int feed, int place) {
        if (!isFeed(feed) || !isPlace(place)) {
            return BAD;
        }
        if (now.jointCount >= JOINTS_MOST) {
            return FULL;
        }
        int number = now.jointCount;
        int cabinet = feed >= CABINET_FEED ? feed - CABINET_FEED : now.joints[feed].cabinet;
        now.joints[number].begin(feed, place, cabinet);
        now.jointCount = number + 1;
        return number;
    }

    public int jointTold(int joint, int what) {
        if (!now.hasJoint(joint)) {
            return BAD;
        }
        Joint j = now.joints[joint];
        switch (what) {
            case 0: return j.feed;
            case 1: return j.place;
            case 2: return j.cabinet;
            case 3: return bit(j.broken);
            case 4: return now.lampsAt(joint);
            default: return BAD;
        }
    }

    public int lamp(int kind, int joint, int of) {
        if (!isKind(kind) || !now.hasJoint(joint) || !isDrawAndClass(of)) {
            return BAD;
        }
        if (now.lampCount >= LAMPS_MOST) {
            return FULL;
        }
        int number = now.lampCount;
        now.lamps[number].begin(kind, joint, of / 10, of % 10);
        now.lampCount = number + 1;
        return number;
    }

    public int told(int lamp, int what) {
        if (!now.hasLamp(lamp)) {
            return BAD;
        }
        Lamp l = now.lamps[lamp];
        switch (what) {
            case 0: return l.kind;
            case 1: return l.joint;
            case 2: return l.draw;
            case 3: return l.ofClass;
            case 4: return l.burnt;
            case 5: return bit(l.out);
            case 6: return bit(now.isFed(l));
            case 7: return bit(now.should(l));
            case 8: return bit(now.burns(l));
            case 9: return now.draws(l);
            case 10: return wearOf(l.kind);
            case 11: return now.life(l);
            case 12: return bit(l.toldDark);
            default: return BAD;
        }
    }

    public int as(int lamp, int kind) {
        if (!now.hasLamp(lamp) || !isKind(kind)) {
            return BAD;
        }
        Lamp l = now.lamps[lamp];
        return isOfKind(l.kind, kind) ? l.burnt : KIND;
    }

    public int change(int lamp, int kind) {
        if (!now.hasLamp(lamp) || !isKind(kind)) {
            return BAD;
        }
        Lamp l = now.lamps[lamp];
        int was = l.kind;
        l.kind = kind;
        l.burnt = 0;
        l.out = false;
        return was;
    }

    public int feast(int v) {
        if (v < 1 || v > 99) {
            return BAD;
        }
        int was = now.feastEvery;
        now.feastEvery = v;
        return was;
    }

    public int breaks(int what, int k) {
        return now.hasThing(what, k) ? bit(now.makeBroken(what, k, true)) : BAD;
    }

    public int mend(int what, int k) {
        return now.hasThing(what, k) ? bit(now.makeBroken(what, k, false)) : BAD;
    }

    // ---- hours, laws

    public int hours(int n) {
        if (n < 1 || n > 60) {
            return BAD;
        }
        if (now.day + (now.hour + n) / HOURS_OF_DAY > DAY_LAST) {
            return FULL;
        }
        for (int i = 0; i < n; i++) {
            now.passHour();
        }
        return now.hour;
    }

    public int bill(int cabinet) {
        if (!now.hasCabinet(cabinet)) {
            return BAD;
        }
        int paid = now.cabinets[cabinet].paid;
        now.cabinets[cabinet].paid = 0;
        return paid;
    }

    public int light(int of) {
        return of >= 0 && of < CLASSES ? now.lightOf(of) : BAD;
    }

    public int tooDark() {
        int bits = 0;
        for (int ofClass = 0; ofClass < CLASSES; ofClass++) {
            if (now.lightOf(ofClass) < now.law(ofClass)) {
                bits |= 1 << ofClass;
            }
        }
        return bits;
    }

    public int feed(int a, int b, int c) {
        if (reader.tapeSize > TAPE_MOST - 12) {
            return FULL;
        }
        reader.takeBytes(a);
        reader.takeBytes(b);
        reader.takeBytes(c);
        return reader.tapeSize;
    }

    public int trim(int n) {
        if (n < 0 || n > reader.tapeSize) {
            return BAD;
        }
        reader.tapeSize = n;
        return n;
    }

    public int text() {
        int fault = reader.read();
        reader.tapeSize = 0;
        if (fault >= 0) {
            return -100 - fault;
        }
        if (now.textCount >= TEXTS_MOST) {
            return FULL;
        }
        int number = now.textCount;
        book.texts[number].become(reader.draft);
        now.textOfKey[reader.draft.key] = number;
        now.textCount = number + 1;
        return number;
    }

    public int textTold(int text, int what) {
        if (text < 0 || text >= now.textCount) {
            return BAD;
        }
        switch (what) {
            case 0: return book.texts[text].key;
            case 1: return book.texts[text].atoms;
            default: return BAD;
        }
    }

    public int why(int key) {
        return key >= 0 && key < KEYS ? now.textOfKey[key] : BAD;
    }

    // ---- faults

    public int dark(int lamp, boolean is) {
        if (!now.hasLamp(lamp)) {
            return BAD;
        }
        boolean isNew = now.lamps[lamp].toldDark != is;
        now.lamps[lamp].toldDark = is;
        return bit(isNew);
    }

    public int blame(int what, int k) {
        if (!now.hasThing(what, k)) {
            return BAD;
        }
        faults.find(now);
        return bit(faults.isBlamed(what, k));
    }

    public int blames() {
        faults.find(now);
        return faults.found;
    }

    public int choose(int lamp) {
        if (!now.hasLamp(lamp)) {
            return BAD;
        }
        if (isAmong(lamp, now.chosen, now.chosenCount)) {
            return NO;
        }
        if (now.chosenCount >= CHOSEN_MOST) {
            return FULL;
        }
        now.chosen[now.chosenCount] = lamp;
        now.chosenCount++;
        return now.chosenCount;
    }

    public int clear() {
        int were = now.chosenCount;
        now.chosenCount = 0;
        return were;
    }

    public int guess(int v) {
        return v >= 0 && v <= 9999 ? fewestThatDraw(v) : BAD;
    }

    public int stop(int joint) {
        if (!now.hasJoint(joint)) {
            return BAD;
        }
        if (isAmong(joint, now.stops, now.stopCount)) {
            return NO;
        }
        if (now.stopCount >= STOPS_MOST) {
            return FULL;
        }
        now.stops[now.stopCount] = joint;
        now.stopCount++;
        return now.stopCount;
    }

    public int home() {
        int were = now.stopCount;
        now.stopCount = 0;
        return were;
    }

    public int round(int cabinet, int what) {
        if (!now.hasCabinet(cabinet) || what < -1 || what >= now.stopCount) {
            return BAD;
        }
        walk.find(now, cabinet);
        return what < 0 ? walk.bestLength : now.stops[walk.best[what]];
    }

    public int together(int kind, int prices, int what) {
        if (!isKind(kind) || prices < 0 || prices > 999999 || what < 0 || what > 1) {
            return BAD;
        }
        int many = gatherLives(kind);
        if (many == 0) {
            return NONE;
        }
        int allAtOnce = many * (prices / 1000);
        int bestT = 0;
        int bestCost = 0;
        for (int t = 1; t <= 20; t++) {
            int cost = (allAtOnce + prices % 1000 * livesBelow(250 * t, many)) * 100 / t;
            if (bestT == 0 || cost < bestCost) {
                bestT = t;
                bestCost = cost;
            }
        }
        return what == 0 ? bestT : bestCost;
    }

    // ---- sheets, slots

    public int sheet(int sheet, int sort, int n) {
        if (!isSheet(sheet) || sort < SORT_MISSING || sort > SORT_FLOATS) {
            return BAD;
        }
        if (sort == SORT_MISSING) {
            sheets[sheet].begin(SORT_MISSING, 0);
            return 0;
        }
        if (n > PLACES_MOST) {
            return BAD;
        }
        if (n < 0) {
            return SIZE;
        }
        sheets[sheet].begin(sort, n);
        return n;
    }

    public int mark(int sheet, int place, int v) {
        if (!isSheet(sheet)) {
            return BAD;
        }
        Sheet s = sheets[sheet];
        if (s.isMissing()) {
            return NOTHING;
        }
        if (!s.hasPlace(place)) {
            return INDEX;
        }
        if (s.sort == SORT_SHORTS) {
            if (v == NONE) {
                return KIND;
            }
            s.values[place] = (short) v;
            return 1;
        }
        if (v != NONE && (v < -FLOAT_MOST || v > FLOAT_MOST)) {
            return BAD;
        }
        s.values[place] = v;
        return 1;
    }

    public int fits(int sheet, int cabinet) {
        if (!isSheet(sheet) || !now.hasCabinet(cabinet)) {
            return BAD;
        }
        Sheet s = sheets[sheet];
        if (s.isMissing()) {
            return NOTHING;
        }
        trial.become(now);
        for (int place = 0; place < s.size; place++) {
            if (s.isNumber(place) && s.values[place] != trial.drawn(cabinet)) {
                return place;
            }
            trial.passHour();
        }
        return NONE;
    }

    public int copy(int from, int place, int to, int at, int many) {
        if (!isSheet(from) || !isSheet(to)) {
            return BAD;
        }
        Sheet source = sheets[from];
        Sheet target = sheets[to];
        if (source.isMissing() || target.isMissing()) {
            return NOTHING;
        }
        if (source.sort != target.sort) {
            return KIND;
        }
        if (!source.hasPlaces(place, many) || !target.hasPlaces(at, many)) {
            return INDEX;
        }
        System.arraycopy(source.values, place, target.values, at, many);
        return many;
    }

    public int lay(int slot, int thing, int k) {
        if (!isSlot(slot) || thing < HOLDS_NOTHING || thing > HOLDS_NUMBER) {
            return BAD;
        }
        if (thing == HOLDS_LAMP && !now.hasLamp(k) || thing == HOLDS_SHEET && !isSheet(k)) {
            return BAD;
        }
        if (thing == HOLDS_SHEET && sheets[k].isMissing()) {
            return NOTHING;
        }
        Slot s = slots[slot];
        int held = s.thing;
        s.thing = thing;
        if (thing == HOLDS_LAMP) {
            s.lampKind = now.lamps[k].kind;
        } else if (thing == HOLDS_SHEET) {
            s.row.become(sheets[k]);
        } else if (thing == HOLDS_NUMBER) {
            s.number = k;
        }
        return held;
    }

    public int ask(int slot, int kind) {
        if (!isSlot(slot) || !isKind(kind)) {
            return BAD;
        }
        int refusal = slots[slot].refusesAs(HOLDS_LAMP);
        if (refusal != 0) {
            return refusal;
        }
        int own = slots[slot].lampKind;
        return isOfKind(own, kind) ? wearOf(own) : KIND;
    }

    public int item(int slot, int place) {
        if (!isSlot(slot)) {
            return BAD;
        }
        int refusal = slots[slot].refusesAs(HOLDS_SHEET);
        if (refusal != 0) {
            return refusal;
        }
        Sheet row = slots[slot].row;
        if (!row.hasPlace(place)) {
            return INDEX;
        }
        return row.isNumber(place) ? row.values[place] : KIND;
    }

    public int rest(int slot, int n) {
        if (!isSlot(slot)) {
            return BAD;
        }
        int refusal = slots[slot].refusesAs(HOLDS_NUMBER);
        if (refusal != 0) {
            return refusal;
        }
        return n == 0 ? NO : slots[slot].number % n;
    }

    // ---- rows, images

    public int tell(int v) {
        if (waitingCount >= WAITING_MOST) {
            return FULL;
        }
        waiting[waitingCount] = v;
        waitingCount++;
        return waitingCount;
    }

    public int check(int n) {
        int told = waitingCount;
        waitingCount = 0;
        if (n < 1 || n > 30) {
            return BAD;
        }
        if (!hasImage) {
            return NO;
        }
        int right = toldRight(told, n);
        return right == told && right == 2 * n ? 0 : 1 + right;
    }

    public int keep() {
        image.become(now);
        hasImage = true;
        return now.hour;
    }

    public int back() {
        if (!hasImage) {
            return NO;
        }
        now.become(image);
        return now.hour;
    }

    public int count(int what) {
        switch (what) {
            case 0: return now.cabinetCount;
            case 1: return now.jointCount;
            case 2: return now.lampCount;
            case 3: return now.lampsOut();
            case 4: return now.brokenThings();
            case 5: return now.textCount;
            case 6: return now.chosenCount;
            case 7: return now.stopCount;
            case 8: return now.lampsToldDark();
            case 9: return now.hour;
            case 10: return now.day;
            case 11: return waitingCount;
            case 12: return reader.tapeSize;
            default: return BAD;
        }
    }

    // ---- what the calls share

    private static int bit(boolean is) {
        return is ? 1 : 0;
    }

    private static boolean isPlace(int place) {
        return place >= 0 && place / 100 <= 30 && place % 100 <= 30;
    }

    private static boolean isClock(int clock) {
        return clock >= 0 && clock / 100 < HOURS_OF_DAY && clock % 100 < HOURS_OF_DAY;
    }

    private static boolean isDrawAndClass(int of) {
        return of >= 10 && of / 10 <= 99 && of % 10 < CLASSES;
    }

    private static boolean isKind(int kind) {
        return kind >= 0 && kind < KINDS;
    }

    private static boolean isSheet(int sheet) {
        return sheet >= 0 && sheet < SHEETS;
    }

    private static boolean isSlot(int slot) {
        return slot >= 0 && slot < SLOTS;
    }

    private boolean isFeed(int feed) {
        return feed >= CABINET_FEED ? now.hasCabinet(feed - CABINET_FEED) : now.hasJoint(feed);
    }

    private static boolean isAmong(int number, int[] row, int size) {
        for (int i = 0; i < size && i < row.length; i++) {
            if (row[i] == number) {
                return true;
            }
        }
        return false;
    }

    /** Whether a KIND is the wanted one or under it. */
    private static boolean isOfKind(int kind, int wanted) {
        int k = kind;
        for (int up = 0; up < KINDS && isKind(k); up++) {
            if (k == wanted) {
                return true;
            }
            k = KIND_ABOVE[k];
        }
        return false;
    }

    private static int wearOf(int kind) {
        int asLamp = 1;
        switch (kind) {
            case FEAST: return asLamp + 1;
            case TUBE: return 2 * asLamp;
            default: return asLamp;
        }
    }

    private int fewestThatDraw(int v) {
        int awake = 0;
        for (int i = 0; i < now.chosenCount; i++) {
            Lamp l = now.lamps[now.chosen[i]];
            chosenDraws[i] = now.draws(l);
            awake |= bit(now.should(l)) << i;
        }
        int best = NONE;
        // sets go upwards as bits, so only fewer lamps may take the place of an earlier set
        for (int set = 0; set <= awake; set++) {
            boolean asks = (set & ~awake) == 0 && drawOfSet(set) == v;
            if (asks && (best == NONE || Integer.bitCount(set) < Integer.bitCount(best))) {
                best = set;
            }
        }
        return best;
    }

    private int drawOfSet(int set) {
        int sum = 0;
        for (int i = 0; i < CHOSEN_MOST; i++) {
            if ((set >> i & 1) != 0) {
                sum += chosenDraws[i];
            }
        }
        return sum;
    }

    /** LIFE of each LAMP of a KIND comes to the row of lives: how many there are. */
    private int gatherLives(int kind) {
        int many = 0;
        for (int i = 0; i < now.lampCount; i++) {
            if (isOfKind(now.lamps[i].kind, kind)) {
                lives[many] = now.life(now.lamps[i]);
                many++;
            }
        }
        return many;
    }

    private int livesBelow(int bound, int many) {
        int below = 0;
        for (int i = 0; i < many && i < LAMPS_MOST; i++) {
            if (lives[i] < bound) {
                below++;
            }
        }
        return below;
    }

    /** How many of the told numbers stand right ahead of the first that is not. */
    private int toldRight(int told, int n) {
        trial.become(image);
        int right = 0;
        for (int i = 0; i < n; i++) {
            if (right >= told || waiting[right] != trial.drawnByAll()) {
                return right;
            }
            right++;
            trial.passHour();
            if (right >= told || waiting[right] != trial.lampsOut()) {
                return right;
            }
            right++;
        }
        return right;
    }

    // ---- what the town is made of

    private static final class Cabinet {
        int place;
        int on;
        int off;
        int shift;
        boolean broken;
        int paid;

        void begin(int newPlace, int newOn, int newOff) {
            place = newPlace;
            on = newOn;
            off = newOff;
            shift = 0;
            broken = false;
            paid = 0;
        }

        void become(Cabinet other) {
            place = other.place;
            on = other.on;
            off = other.off;
            shift = other.shift;
            broken = other.broken;
            paid = other.paid;
        }

        boolean isNight(int hour) {
            int t = Math.floorMod(hour - shift, HOURS_OF_DAY);
            if (on < off) {
                return t >= on && t < off;
            }
            return on > off && (t >= on || t < off);
        }
    }

    private static final class Joint {
        int feed;
        int place;
        int cabinet;
        boolean broken;

        void begin(int newFeed, int newPlace, int newCabinet) {
            feed = newFeed;
            place = newPlace;
            cabinet = newCabinet;
            broken = false;
        }

        void become(Joint other) {
            feed = other.feed;
            place = other.place;
            cabinet = other.cabinet;
            broken = other.broken;
        }
    }

    private static final class Lamp {
        int kind;
        int joint;
        int draw;
        int ofClass;
        int burnt;
        boolean out;
        boolean toldDark;

        void begin(int newKind, int newJoint, int newDraw, int newClass) {
            kind = newKind;
            joint = newJoint;
            draw = newDraw;
            ofClass = newClass;
            burnt = 0;
            out = false;
            toldDark = false;
        }

        void become(Lamp other) {
            kind = other.kind;
            joint = other.joint;
            draw = other.draw;
            ofClass = other.ofClass;
            burnt = other.burnt;
            out = other.out;
            toldDark = other.toldDark;
        }
    }

    /** All that AN IMAGE keeps. */
    private static final class Town {
        private final Book book;
        final Cabinet[] cabinets = new Cabinet[CABINETS_MOST];
        int cabinetCount = 0;
        final Joint[] joints = new Joint[JOINTS_MOST];
        int jointCount = 0;
        final Lamp[] lamps = new Lamp[LAMPS_MOST];
        int lampCount = 0;
        int hour = 18;
        int day = 0;
        int feastEvery = 7;
        final int[] chosen = new int[CHOSEN_MOST];
        int chosenCount = 0;
        final int[] stops = new int[STOPS_MOST];
        int stopCount = 0;
        /**
         * The texts themselves stand in the book, one for all towns: an image never has more of
         * them than the town of now, so one that is written anew is none of the image's.
         */
        int textCount = 0;
        final int[] textOfKey = {NONE, NONE, NONE, NONE};

        Town(Book itsBook) {
            book = itsBook;
            for (int i = 0; i < CABINETS_MOST; i++) {
                cabinets[i] = new Cabinet();
            }
            for (int i = 0; i < JOINTS_MOST; i++) {
                joints[i] = new Joint();
            }
            for (int i = 0; i < LAMPS_MOST; i++) {
                lamps[i] = new Lamp();
            }
        }

        void become(Town other) {
            cabinetCount = other.cabinetCount;
            for (int i = 0; i < cabinetCount; i++) {
                cabinets[i].become(other.cabinets[i]);
            }
            jointCount = other.jointCount;
            for (int i = 0; i < jointCount; i++) {
                joints[i].become(other.joints[i]);
            }
            lampCount = other.lampCount;
            for (int i = 0; i < lampCount; i++) {
                lamps[i].become(other.lamps[i]);
            }
            hour = other.hour;
            day = other.day;
            feastEvery = other.feastEvery;
            chosenCount = other.chosenCount;
            System.arraycopy(other.chosen, 0, chosen, 0, CHOSEN_MOST);
            stopCount = other.stopCount;
            System.arraycopy(other.stops, 0, stops, 0, STOPS_MOST);
            textCount = other.textCount;
            System.arraycopy(other.textOfKey, 0, textOfKey, 0, KEYS);
        }

        boolean hasCabinet(int number) {
            return number >= 0 && number < cabinetCount;
        }

        boolean hasJoint(int number) {
            return number >= 0 && number < jointCount;
        }

        boolean hasLamp(int number) {
            return number >= 0 && number < lampCount;
        }

        boolean hasThing(int what, int number) {
            switch (what) {
                case 0: return hasCabinet(number);
                case 1: return hasJoint(number);
                case 2: return hasLamp(number);
                default: return false;
            }
        }

        /** A thing that the town has becomes broken (a lamp: out), or not: whether that is new. */
        boolean makeBroken(int what, int number, boolean is) {
            boolean was;
            if (what == 0) {
                was = cabinets[number].broken;
                cabinets[number].broken = is;
            } else if (what == 1) {
                was = joints[number].broken;
                joints[number].broken = is;
            } else {
                was = lamps[number].out;
                lamps[number].out = is;
            }
            return was != is;
        }

        boolean isFed(Lamp lamp) {
            if (lamp.out) {
                return false;
            }
            int feed = lamp.joint;
            for (int up = 0; up < JOINTS_MOST && hasJoint(feed); up++) {
                if (joints[feed].broken) {
                    return false;
                }
                feed = joints[feed].feed;
            }
            return !cabinetOf(lamp).broken;
        }

        private Cabinet cabinetOf(Lamp lamp) {
            return cabinets[joints[lamp.joint].cabinet];
        }

        boolean should(Lamp lamp) {
            switch (lamp.kind) {
                case SIGN: return true;
                case FEAST: return feastEvery > 0 && day % feastEvery == 0;
                default: return cabinetOf(lamp).isNight(hour);
            }
        }

        boolean burns(Lamp lamp) {
            return should(lamp) && isFed(lamp);
        }

        int draws(Lamp lamp) {
            switch (lamp.kind) {
                case DIMMED: return drawsDimmed(lamp);
                case SENSOR:
                    int asDimmed = drawsDimmed(lamp);
                    return asDimmed - asDimmed / 3;
                case SIGN: return lamp.draw / 2;
                case FEAST: return 3 * (lamp.draw / 2);
                case TUBE: return lamp.draw + lamp.burnt / 1000;
                default: return lamp.draw;
            }
        }

        private int drawsDimmed(Lamp lamp) {
            int without = hour <= 4 ? 50 : 100;
            int dim = book.gives(this, DIM, without, lamp.ofClass, lamp.kind, lamp.draw);
            return lamp.draw * Math.max(0, Math.min(100, dim)) / 100;
        }

        int life(Lamp lamp) {
            int life = book.gives(this, LIFE, 4000, lamp.ofClass, lamp.kind, lamp.draw);
            return Math.max(1, Math.min(BURNT_MOST, life));
        }

        int law(int ofClass) {
            return book.gives(this, LAW, 0, ofClass, 0, 0);
        }

        private int price() {
            return Math.max(0, Math.min(999, book.gives(this, PRICE, 10, 0, 0, 0)));
        }

        int due(int cabinet) {
            int sum = 0;
            for (int i = 0; i < lampCount; i++) {
                if (joints[lamps[i].joint].cabinet == cabinet && should(lamps[i])) {
                    sum += draws(lamps[i]);
                }
            }
            return sum;
        }

        int drawn(int cabinet) {
            int sum = 0;
            for (int i = 0; i < lampCount; i++) {
                if (joints[lamps[i].joint].cabinet == cabinet && burns(lamps[i])) {
                    sum += draws(lamps[i]);
                }
            }
            return sum;
        }

        int drawnByAll() {
            int sum = 0;
            for (int i = 0; i < lampCount; i++) {
                if (burns(lamps[i])) {
                    sum += draws(lamps[i]);
                }
            }
            return sum;
        }

        int lightOf(int ofClass) {
            int sum = 0;
            for (int i = 0; i < lampCount; i++) {
                if (lamps[i].ofClass == ofClass && burns(lamps[i])) {
                    sum += draws(lamps[i]);
                }
            }
            return sum;
        }

        int lampsAt(int joint) {
            int many = 0;
            for (int i = 0; i < lampCount; i++) {
                if (lamps[i].joint == joint) {
                    many++;
                }
            }
            return many;
        }

        int lampsOut() {
            int many = 0;
            for (int i = 0; i < lampCount; i++) {
                many += bit(lamps[i].out);
            }
            return many;
        }

        int lampsToldDark() {
            int many = 0;
            for (int i = 0; i < lampCount; i++) {
                many += bit(lamps[i].toldDark);
            }
            return many;
        }

        int brokenThings() {
            int many = 0;
            for (int i = 0; i < cabinetCount; i++) {
                many += bit(cabinets[i].broken);
            }
            for (int i = 0; i < jointCount; i++) {
                many += bit(joints[i].broken);
            }
            return many;
        }

        /** One HOUR goes by. No lamp's part in it hangs on another lamp, so each is done at once. */
        void passHour() {
            int price = price();
            for (int i = 0; i < lampCount; i++) {
                Lamp lamp = lamps[i];
                if (burns(lamp)) {
                    Cabinet payer = cabinetOf(lamp);
                    payer.paid = Math.min(PAID_MOST, payer.paid + draws(lamp) * price);
                    lamp.burnt = Math.min(BURNT_MOST, lamp.burnt + wearOf(lamp.kind));
                    lamp.out = lamp.burnt >= life(lamp);
                }
            }
            hour++;
            if (hour >= HOURS_OF_DAY) {
                hour = 0;
                day++;
            }
        }
    }

    // ---- texts

    /** A TEXT, worked out from left to right with a stack: operands stand ahead of their sign. */
    private static final class Text {
        int key = 0;
        /** How many NUMBERS and NAMES it has. */
        int atoms = 0;
        int size = 0;
        /** A number stands as it is; a name or a sign as its byte, below 0. */
        final int[] code = new int[TAPE_MOST];

        void begin() {
            key = 0;
            atoms = 0;
            size = 0;
        }

        void become(Text other) {
            key = other.key;
            atoms = other.atoms;
            size = other.size;
            System.arraycopy(other.code, 0, code, 0, TAPE_MOST);
        }

        void addAtom(int step) {
            atoms++;
            addStep(step);
        }

        void addStep(int step) {
            if (size < TAPE_MOST) {
                code[size] = step;
                size++;
            }
        }
    }

    private static final class Book {
        final Text[] texts = new Text[TEXTS_MOST];
        private final int[] names = new int[26];
        private final int[] stack = new int[TAPE_MOST];

        Book() {
            for (int i = 0; i < TEXTS_MOST; i++) {
                texts[i] = new Text();
            }
        }

        /** What the text that counts for a key in a town gives, or another value where there is none. */
        int gives(Town town, int key, int without, int ofClass, int kind, int draw) {
            int number = town.textOfKey[key];
            if (number < 0 || number >= TEXTS_MOST) {
                return without;
            }
            names['h' - 'a'] = town.hour;
            names['d' - 'a'] = town.day;
            names['c' - 'a'] = ofClass;
            names['k' - 'a'] = kind;
            names['w' - 'a'] = draw;
            Text text = texts[number];
            int top = 0;
            for (int i = 0; i < text.size; i++) {
                int step = text.code[i];
                if (step >= 0 || isLetter(-step)) {
                    stack[top] = step >= 0 ? step : names[-step - 'a'];
                    top++;
                } else if (step == -'!') {
                    if (top >= 1) {
                        stack[top - 1] = stack[top - 1] == 0 ? 1 : 0;
                    }
                } else if (top >= 2) {
                    stack[top - 2] = worth(stack[top - 2], -step, stack[top - 1]);
                    top--;
                }
            }
            return stack[0];
        }

        private static int worth(int a, int sign, int b) {
            switch (sign) {
                case '|': return a != 0 || b != 0 ? 1 : 0;
                case '&': return a != 0 && b != 0 ? 1 : 0;
                case '<': return a < b ? 1 : 0;
                case '=': return a == b ? 1 : 0;
                case '>': return a > b ? 1 : 0;
                case '+': return a + b;
                case '-': return a - b;
                case '*': return a * b;
                case '/': return b == 0 ? 0 : a / b;
                default: return 0;
            }
        }

        private static boolean isLetter(int b) {
            return b >= 'a' && b <= 'z';
        }
    }

    /** THE TAPE, and how it is read: each read method leaves the FAULT at the word it stops at. */
    private static final class Reader {
        private static final int END = 0;
        private static final int LETTERS = 1;
        private static final int DIGITS = 2;
        private static final int OTHER = 3;
        private static final int DIGITS_MOST = 4;
        private static final int OPEN_MOST = 8;
        private static final int LEVELS = 5;
        private static final int TEST_LEVEL = 2;

        private final int[] tape = new int[TAPE_MOST];
        int tapeSize = 0;
        final Text draft = new Text();

        private int form = END;
        private int start = 0;
        private int next = 0;
        /** The word or sign stands right behind a word. */
        private boolean glued = false;

        void takeBytes(int four) {
            for (int down = 24; down >= 0 && tapeSize < TAPE_MOST; down -= 8) {
                tape[tapeSize] = four >>> down & 255;
                tapeSize++;
            }
        }

        /** THE TAPE becomes the draft: the place of its FAULT, or -1. */
        int read() {
            draft.begin();
            form = END;
            next = 0;
            step();
            boolean whole = readKey() && readLevel(0, 0, 0) && form == END;
            return whole ? -1 : start;
        }

        private void step() {
            boolean behindWord = form == LETTERS || form == DIGITS;
            int at = next;
            while (at < tapeSize && tape[at] == ' ') {
                at++;
            }
            glued = behindWord && at == next;
            start = at;
            if (at >= tapeSize) {
                form = END;
                next = at;
                return;
            }
            form = formOf(tape[at]);
            at++;
            while (at < tapeSize && form != OTHER && formOf(tape[at]) == form) {
                at++;
            }
            next = at;
        }

        private static int formOf(int b) {
            if (b >= 'a' && b <= 'z') {
                return LETTERS;
            }
            return b >= '0' && b <= '9' ? DIGITS : OTHER;
        }

        private boolean isSign(char sign) {
            return form == OTHER && start < tapeSize && tape[start] == sign;
        }

        private boolean readKey() {
            for (int key = 0; key < KEYS; key++) {
                if (form == LETTERS && isWord(keyWord(key))) {
                    draft.key = key;
                    step();
                    return true;
                }
            }
            return false;
        }

        private static String keyWord(int key) {
            switch (key) {
                case DIM: return "dim";
                case LIFE: return "life";
                case PRICE: return "price";
                default: return "law";
            }
        }

        private static String keyNames(int key) {
            switch (key) {
                case DIM: return "hdc";
                case LIFE: return "kwc";
                case PRICE: return "hd";
                default: return "hc";
            }
        }

        private boolean isWord(String word) {
            if (next - start != word.length()) {
                return false;
            }
            for (int i = 0; i < word.length(); i++) {
                if (tape[start + i] != word.charAt(i)) {
                    return false;
                }
            }
            return true;
        }

        /** The signs between parts, the loosest level first. */
        private static String signsOf(int level) {
            switch (level) {
                case 0: return "|";
                case 1: return "&";
                case TEST_LEVEL: return "<=>";
                case 3: return "+-";
                default: return "*/";
            }
        }

        private boolean isSignOf(int level) {
            return form == OTHER && start < tapeSize && signsOf(level).indexOf((char) tape[start]) >= 0;
        }

        /** E, or the part of it that binds by the signs of a level and of those behind it. */
        private boolean readLevel(int level, int opens, int nots) {
            if (level >= LEVELS) {
                return readPiece(opens, nots);
            }
            boolean good = readLevel(level + 1, opens, nots);
            int signsMost = level == TEST_LEVEL ? 1 : TAPE_MOST;
            for (int i = 0; i < signsMost && good && isSignOf(level); i++) {
                int sign = tape[start];
                step();
                good = readLevel(level + 1, opens, nots);
                draft.addStep(-sign);
            }
            return good;
        }

        private boolean readPiece(int opens, int nots) {
            if (form == DIGITS) {
                return readNumber();
            }
            if (form == LETTERS) {
                return readName();
            }
            if (isSign('!') && nots < OPEN_MOST) {
                step();
                boolean good = readPiece(opens, nots + 1);
                draft.addStep(-'!');
                return good;
            }
            if (isSign('(') && opens < OPEN_MOST) {
                step();
                if (!readLevel(0, opens + 1, nots) || !isSign(')')) {
                    return false;
                }
                step();
                return true;
            }
            return false;
        }

        private boolean readNumber() {
            if (glued || next - start > DIGITS_MOST) {
                return false;
            }
            int number = 0;
            for (int i = start; i < next; i++) {
                number = number * 10 + tape[i] - '0';
            }
            draft.addAtom(number);
            step();
            return true;
        }

        private boolean readName() {
            if (glued || next - start != 1 || keyNames(draft.key).indexOf((char) tape[start]) < 0) {
                return false;
            }
            draft.addAtom(-tape[start]);
            step();
            return true;
        }
    }

    // ---- faults

    /** Who is blamed, for cabinets, joints and lamps alike. */
    private static final class Faults {
        private final int[] behindCabinet = new int[CABINETS_MOST];
        private final int[] darkBehindCabinet = new int[CABINETS_MOST];
        private final int[] behindJoint = new int[JOINTS_MOST];
        private final int[] darkBehindJoint = new int[JOINTS_MOST];
        private final boolean[] cabinetBlamed = new boolean[CABINETS_MOST];
        private final boolean[] jointBlamed = new boolean[JOINTS_MOST];
        /** It is blamed, or what feeds it is explained: nothing behind it is blamed. */
        private final boolean[] jointExplained = new boolean[JOINTS_MOST];
        private final boolean[] lampBlamed = new boolean[LAMPS_MOST];
        int found = 0;

        boolean isBlamed(int what, int number) {
            switch (what) {
                case 0: return cabinetBlamed[number];
                case 1: return jointBlamed[number];
                default: return lampBlamed[number];
            }
        }

        void find(Town town) {
            countBehind(town);
            found = 0;
            for (int i = 0; i < town.cabinetCount; i++) {
                cabinetBlamed[i] = areAllDark(behindCabinet[i], darkBehindCabinet[i]);
                found += bit(cabinetBlamed[i]);
            }
            blameJoints(town);
            blameLamps(town);
        }

        private static boolean areAllDark(int behind, int dark) {
            return behind >= 2 && dark == behind;
        }

        private void countBehind(Town town) {
            for (int i = 0; i < CABINETS_MOST; i++) {
                behindCabinet[i] = 0;
                darkBehindCabinet[i] = 0;
            }
            for (int i = 0; i < JOINTS_MOST; i++) {
                behindJoint[i] = 0;
                darkBehindJoint[i] = 0;
            }
            for (int i = 0; i < town.lampCount; i++) {
                Lamp lamp = town.lamps[i];
                if (town.should(lamp)) {
                    behindJoint[lamp.joint]++;
                    darkBehindJoint[lamp.joint] += bit(lamp.toldDark);
                }
            }
            // a joint is fed by one with a lesser number, so downwards each is whole when it is added
            for (int i = town.jointCount - 1; i >= 0; i--) {
                addToFeed(town.joints[i].feed, behindJoint[i], darkBehindJoint[i]);
            }
        }

        private void addToFeed(int feed, int behind, int dark) {
            if (feed >= CABINET_FEED) {
                behindCabinet[feed - CABINET_FEED] += behind;
                darkBehindCabinet[feed - CABINET_FEED] += dark;
            } else {
                behindJoint[feed] += behind;
                darkBehindJoint[feed] += dark;
            }
        }

        private void blameJoints(Town town) {
            for (int i = 0; i < town.jointCount; i++) {
                int feed = town.joints[i].feed;
                boolean feedExplained = feed >= CABINET_FEED ? cabinetBlamed[feed - CABINET_FEED] : jointExplained[feed];
                jointBlamed[i] = !feedExplained && areAllDark(behindJoint[i], darkBehindJoint[i]);
                jointExplained[i] = feedExplained || jointBlamed[i];
                found += bit(jointBlamed[i]);
            }
        }

        private void blameLamps(Town town) {
            for (int i = 0; i < town.lampCount; i++) {
                Lamp lamp = town.lamps[i];
                lampBlamed[i] = lamp.toldDark && !jointExplained[lamp.joint] && town.should(lamp);
                found += bit(lampBlamed[i]);
            }
        }
    }

    /** THE ROUND. Orders are tried by the order told, so only a lesser way takes an earlier one's place. */
    private static final class Walk {
        /** Longer than seven ways of 60 each, which no round goes beyond. */
        private static final int LONGER_THAN_ANY = 1000;

        private final int[] stopPlaces = new int[STOPS_MOST];
        private final int[] order = new int[STOPS_MOST];
        final int[] best = new int[STOPS_MOST];
        int bestLength = 0;
        private int stopCount = 0;
        private int homePlace = 0;

        void find(Town town, int cabinet) {
            homePlace = town.cabinets[cabinet].place;
            stopCount = town.stopCount;
            for (int i = 0; i < stopCount; i++) {
                stopPlaces[i] = town.joints[town.stops[i]].place;
            }
            bestLength = LONGER_THAN_ANY;
            goOn(0, 0, homePlace, 0);
        }

        private void goOn(int gone, int been, int place, int length) {
            if (gone >= stopCount) {
                int whole = length + way(place, homePlace);
                if (whole < bestLength) {
                    bestLength = whole;
                    System.arraycopy(order, 0, best, 0, STOPS_MOST);
                }
                return;
            }
            for (int i = 0; i < stopCount && length < bestLength; i++) {
                if ((been >> i & 1) == 0) {
                    order[gone] = i;
                    goOn(gone + 1, been | 1 << i, stopPlaces[i], length + way(place, stopPlaces[i]));
                }
            }
        }

        private static int way(int from, int to) {
            return Math.abs(from / 100 - to / 100) + Math.abs(from % 100 - to % 100);
        }
    }

    // ---- sheets and slots

    /** A row of places; NONE stands for NO NUMBER, which no short and no float of ours can be. */
    private static final class Sheet {
        int sort = SORT_MISSING;
        int size = 0;
        final int[] values = new int[PLACES_MOST];

        void begin(int newSort, int newSize) {
            sort = newSort;
            size = newSize;
            for (int i = 0; i < PLACES_MOST; i++) {
                values[i] = 0;
            }
        }

        void become(Sheet other) {
            sort = other.sort;
            size = other.size;
            System.arraycopy(other.values, 0, values, 0, PLACES_MOST);
        }

        boolean isMissing() {
            return sort == SORT_MISSING;
        }

        boolean hasPlace(int place) {
            return place >= 0 && place < size;
        }

        /** Whether so many places stand from one on; none may stand behind the last one, too. */
        boolean hasPlaces(int place, int many) {
            return place >= 0 && many >= 0 && place <= size && many <= size - place;
        }

        boolean isNumber(int place) {
            return values[place] != NONE;
        }
    }

    private static final class Slot {
        int thing = HOLDS_NOTHING;
        /** All that a lamp laid here is ever asked for hangs on its kind. */
        int lampKind = LAMP;
        int number = 0;
        final Sheet row = new Sheet();

        /** The FINDING where it does not hold the wanted thing, else 0. */
        int refusesAs(int wanted) {
            if (thing == HOLDS_NOTHING) {
                return NOTHING;
            }
            return thing == wanted ? 0 : KIND;
        }
    }
}
