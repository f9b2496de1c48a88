import java.util.ArrayDeque;
import java.util.ArrayList;
import java.util.Arrays;
import java.util.Deque;
import java.util.List;

/**
 * The document written a second time, in other ways than the class: kinds are classes, texts are
 * walked as words each time, faults of texts are found by a row of open things, rounds and blames
 * by plain recursion over lists. Not quick, and made to be read beside DOC.md.
 */
final class Model {
    static final int BAD = -1000000001, NO = -1000000002, FULL = -1000000003, NONE = -1000000005;
    static final int NOTHING = -1000000011, KIND = -1000000012, INDEX = -1000000013, SIZE = -1000000014;

    // ---- kinds

    static class LampKind {
        boolean should(World w, Lamp l) {
            return w.isNight(w.cabinets.get(w.cabinetOfJoint(l.joint)));
        }

        int draws(World w, Lamp l) {
            return l.draw;
        }

        int wear() {
            return 1;
        }
    }

    static class Dimmed extends LampKind {
        @Override
        int draws(World w, Lamp l) {
            int dim = w.gives(0, w.hour < 5 ? 50 : 100, l);
            return super.draws(w, l) * (dim < 0 ? 0 : dim > 100 ? 100 : dim) / 100;
        }
    }

    static final class Sensor extends Dimmed {
        @Override
        int draws(World w, Lamp l) {
            int all = super.draws(w, l);
            return all - all / 3;
        }
    }

    static class Sign extends LampKind {
        @Override
        boolean should(World w, Lamp l) {
            return true;
        }

        @Override
        int draws(World w, Lamp l) {
            return super.draws(w, l) / 2;
        }
    }

    static final class Feast extends Sign {
        @Override
        boolean should(World w, Lamp l) {
            return w.day % w.feast == 0 && super.should(w, l);
        }

        @Override
        int draws(World w, Lamp l) {
            return 3 * super.draws(w, l);
        }

        @Override
        int wear() {
            return super.wear() + 1;
        }
    }

    static final class Tube extends LampKind {
        @Override
        int draws(World w, Lamp l) {
            return super.draws(w, l) + l.burnt / 1000;
        }

        @Override
        int wear() {
            return 2 * super.wear();
        }
    }

    static final LampKind[] KINDS = {new LampKind(), new Dimmed(), new Sign(), new Sensor(), new Feast(), new Tube()};

    static boolean isA(int kind, int wanted) {
        return KINDS[wanted].getClass().isInstance(KINDS[kind]);
    }

    // ---- the world that an image keeps

    static final class Cabinet {
        int place, on, off, shift, paid;
        boolean broken;
    }

    static final class Joint {
        int feed, place;
        boolean broken;
    }

    static final class Lamp {
        int kind, joint, draw, ofClass, burnt;
        boolean out, dark;
    }

    static final class World {
        int hour = 18, day = 0, feast = 7;
        List<Cabinet> cabinets = new ArrayList<>();
        List<Joint> joints = new ArrayList<>();
        List<Lamp> lamps = new ArrayList<>();
        List<String> texts = new ArrayList<>();
        List<Integer> chosen = new ArrayList<>();
        List<Integer> stops = new ArrayList<>();

        World twin() {
            World w = new World();
            w.hour = hour;
            w.day = day;
            w.feast = feast;
            for (Cabinet c : cabinets) {
                Cabinet d = new Cabinet();
                d.place = c.place;
                d.on = c.on;
                d.off = c.off;
                d.shift = c.shift;
                d.paid = c.paid;
                d.broken = c.broken;
                w.cabinets.add(d);
            }
            for (Joint j : joints) {
                Joint k = new Joint();
                k.feed = j.feed;
                k.place = j.place;
                k.broken = j.broken;
                w.joints.add(k);
            }
            for (Lamp l : lamps) {
                Lamp m = new Lamp();
                m.kind = l.kind;
                m.joint = l.joint;
                m.draw = l.draw;
                m.ofClass = l.ofClass;
                m.burnt = l.burnt;
                m.out = l.out;
                m.dark = l.dark;
                w.lamps.add(m);
            }
            w.texts.addAll(texts);
            w.chosen.addAll(chosen);
            w.stops.addAll(stops);
            return w;
        }

        boolean isNight(Cabinet c) {
            int t = (hour - c.shift + 48) % 24;
            for (int h = c.on; h != c.off; h = (h + 1) % 24) {
                if (h == t) {
                    return true;
                }
            }
            return false;
        }

        int cabinetOfJoint(int joint) {
            int feed = joints.get(joint).feed;
            return feed >= 100 ? feed - 100 : cabinetOfJoint(feed);
        }

        boolean jointWorks(int joint) {
            Joint j = joints.get(joint);
            return !j.broken && (j.feed >= 100 ? !cabinets.get(j.feed - 100).broken : jointWorks(j.feed));
        }

        boolean fed(Lamp l) {
            return !l.out && jointWorks(l.joint);
        }

        boolean should(Lamp l) {
            return KINDS[l.kind].should(this, l);
        }

        boolean burns(Lamp l) {
            return should(l) && fed(l);
        }

        int draws(Lamp l) {
            return KINDS[l.kind].draws(this, l);
        }

        int life(Lamp l) {
            return Math.min(30000, Math.max(1, gives(1, 4000, l)));
        }

        int textOf(int key) {
            for (int i = texts.size() - 1; i >= 0; i--) {
                if (keyOf(texts.get(i)) == key) {
                    return i;
                }
            }
            return NONE;
        }

        int gives(int key, int without, Lamp l) {
            int t = textOf(key);
            return t == NONE ? without : new Worked(texts.get(t), hour, day, l).value();
        }

        int sum(int cabinet, int ofClass, boolean burning) {
            int sum = 0;
            for (Lamp l : lamps) {
                boolean counts = (cabinet < 0 || cabinetOfJoint(l.joint) == cabinet) && (ofClass < 0 || l.ofClass == ofClass);
                if (counts && (burning ? burns(l) : should(l))) {
                    sum += draws(l);
                }
            }
            return sum;
        }

        int out() {
            return (int) lamps.stream().filter(l -> l.out).count();
        }

        void anHour() {
            List<Lamp> burning = new ArrayList<>();
            List<Integer> wears = new ArrayList<>();
            int price = Math.max(0, Math.min(999, gives(2, 10, null)));
            for (Lamp l : lamps) {
                if (burns(l)) {
                    burning.add(l);
                    wears.add(KINDS[l.kind].wear());
                    Cabinet c = cabinets.get(cabinetOfJoint(l.joint));
                    c.paid = (int) Math.min(99999999L, (long) c.paid + (long) draws(l) * price);
                }
            }
            for (int i = 0; i < burning.size(); i++) {
                burning.get(i).burnt = Math.min(30000, burning.get(i).burnt + wears.get(i));
            }
            for (Lamp l : burning) {
                if (l.burnt >= life(l)) {
                    l.out = true;
                }
            }
            if (hour == 23) {
                day++;
            }
            hour = (hour + 1) % 24;
        }

        /** All lamps behind a cabinet (100 and its number) or a joint. */
        List<Lamp> behind(int feed) {
            List<Lamp> all = new ArrayList<>();
            for (Lamp l : lamps) {
                if (l.joint == feed && should(l)) {
                    all.add(l);
                }
            }
            for (int j = 0; j < joints.size(); j++) {
                if (joints.get(j).feed == feed) {
                    all.addAll(behind(j));
                }
            }
            return all;
        }

        /** Those blamed from a feed on: a feed as it is, a lamp as 1000 and its number. */
        List<Integer> blamed(int feed) {
            List<Lamp> behind = behind(feed);
            if (behind.size() >= 2 && behind.stream().allMatch(l -> l.dark)) {
                return List.of(feed);
            }
            List<Integer> all = new ArrayList<>();
            for (int j = 0; j < joints.size(); j++) {
                if (joints.get(j).feed == feed) {
                    all.addAll(blamed(j));
                }
            }
            for (int l = 0; l < lamps.size(); l++) {
                if (lamps.get(l).joint == feed && should(lamps.get(l)) && lamps.get(l).dark) {
                    all.add(1000 + l);
                }
            }
            return all;
        }

        List<Integer> blamed() {
            List<Integer> all = new ArrayList<>();
            for (int c = 0; c < cabinets.size(); c++) {
                all.addAll(blamed(100 + c));
            }
            return all;
        }
    }

    // ---- texts

    static final String[] KEYS = {"dim", "life", "price", "law"};
    static final String[] NAMES = {"hdc", "kwc", "hd", "hc"};

    static int keyOf(String text) {
        return Arrays.asList(KEYS).indexOf(words(text).get(0).word);
    }

    record Word(String word, int at, boolean isGlued) {
    }

    static boolean isLetter(char c) {
        return c >= 'a' && c <= 'z';
    }

    static boolean isDigit(char c) {
        return c >= '0' && c <= '9';
    }

    static List<Word> words(String text) {
        List<Word> words = new ArrayList<>();
        String rest = text;
        boolean behindWord = false;
        while (!rest.isEmpty()) {
            int at = text.length() - rest.length();
            char c = rest.charAt(0);
            int n = 1;
            if (c == ' ') {
                behindWord = false;
                rest = rest.substring(1);
                continue;
            }
            while (n < rest.length() && (isLetter(c) && isLetter(rest.charAt(n)) || isDigit(c) && isDigit(rest.charAt(n)))) {
                n++;
            }
            boolean isWord = isLetter(c) || isDigit(c);
            words.add(new Word(rest.substring(0, n), at, isWord && behindWord));
            behindWord = isWord;
            rest = rest.substring(n);
        }
        return words;
    }

    /**
     * The place of the FAULT, or -1. Open things are kept in a row: ( and !, and < for a test that
     * has had its sign; an operand ends each ! that stands last, a ) all up to its (.
     */
    static int fault(String text) {
        List<Word> words = words(text);
        if (words.isEmpty()) {
            return text.length();
        }
        int key = keyOf(text);
        if (key < 0) {
            return words.get(0).at;
        }
        Deque<Character> open = new ArrayDeque<>();
        boolean wantsOperand = true;
        for (Word w : words.subList(1, words.size())) {
            char c = w.word.charAt(0);
            boolean good;
            if (wantsOperand) {
                if (isDigit(c)) {
                    good = !w.isGlued && w.word.length() <= 4;
                } else if (isLetter(c)) {
                    good = !w.isGlued && w.word.length() == 1 && NAMES[key].contains(w.word);
                } else {
                    good = (c == '(' || c == '!') && open.stream().filter(o -> o == c).count() < 8;
                    if (good) {
                        open.push(c);
                    }
                }
                wantsOperand = c == '(' || c == '!';
            } else {
                good = "|&<=>+-*/)".indexOf(c) >= 0;
                if (c == ')') {
                    if (!open.isEmpty() && open.peek() == '<') {
                        open.pop();
                    }
                    good = !open.isEmpty() && open.peek() == '(';
                    if (good) {
                        open.pop();
                    }
                } else if ("<=>".indexOf(c) >= 0) {
                    good = open.isEmpty() || open.peek() != '<';
                    open.push('<');
                    wantsOperand = true;
                } else {
                    if ("&|".indexOf(c) >= 0 && !open.isEmpty() && open.peek() == '<') {
                        open.pop();
                    }
                    wantsOperand = true;
                }
            }
            if (!good) {
                return w.at;
            }
            while (!wantsOperand && !open.isEmpty() && open.peek() == '!') {
                open.pop();
            }
        }
        return wantsOperand || open.contains('(') ? text.length() : -1;
    }

    static int atoms(String text) {
        return (int) words(text).stream().skip(1).filter(w -> isLetter(w.word.charAt(0)) || isDigit(w.word.charAt(0))).count();
    }

    /** Works out a text that is whole, by cutting it at its loosest last sign. */
    static final class Worked {
        private final List<String> words = new ArrayList<>();
        private final int hour, day;
        private final Lamp lamp;

        Worked(String text, int hour, int day, Lamp lamp) {
            for (Word w : words(text)) {
                words.add(w.word);
            }
            this.hour = hour;
            this.day = day;
            this.lamp = lamp;
        }

        int value() {
            return value(1, words.size());
        }

        private int value(int from, int to) {
            for (String signs : new String[] {"|", "&", "<=>", "+-", "*/"}) {
                int depth = 0;
                for (int i = to - 1; i > from; i--) {
                    String w = words.get(i);
                    depth += w.equals(")") ? 1 : w.equals("(") ? -1 : 0;
                    if (depth == 0 && signs.contains(w)) {
                        return worth(value(from, i), w, value(i + 1, to));
                    }
                }
            }
            String w = words.get(from);
            if (w.equals("!")) {
                return value(from + 1, to) == 0 ? 1 : 0;
            }
            if (w.equals("(")) {
                return value(from + 1, to - 1);
            }
            return isDigit(w.charAt(0)) ? Integer.parseInt(w) : named(w);
        }

        private int named(String name) {
            switch (name) {
                case "h": return hour;
                case "d": return day;
                case "c": return lamp.ofClass;
                case "k": return lamp.kind;
                case "w": return lamp.draw;
                default: throw new IllegalStateException(name);
            }
        }

        private static int worth(int a, String sign, int b) {
            boolean is;
            switch (sign) {
                case "+": return a + b;
                case "-": return a - b;
                case "*": return a * b;
                case "/": return b == 0 ? 0 : a / b;
                case "|": is = a != 0 | b != 0; break;
                case "&": is = a != 0 & b != 0; break;
                case "<": is = a < b; break;
                case "=": is = a == b; break;
                case ">": is = a > b; break;
                default: throw new IllegalStateException(sign);
            }
            return is ? 1 : 0;
        }
    }

    // ---- the object

    World w = new World();
    World image = null;
    String tape = "";
    List<Integer> waiting = new ArrayList<>();
    /** A sheet: its sort and its places, null for no number. */
    record Sheet(int sort, List<Integer> places) {
    }

    Sheet[] sheets = new Sheet[4];
    /** Null, a Lamp, a Sheet or an Integer. */
    Object[] slots = new Object[5];

    static boolean in(int v, int least, int most) {
        return least <= v && v <= most;
    }

    static boolean isPlace(int place) {
        return in(place, 0, 3030) && place % 100 <= 30;
    }

    boolean has(int what, int k) {
        int[] sizes = {w.cabinets.size(), w.joints.size(), w.lamps.size()};
        return in(what, 0, 2) && in(k, 0, sizes[what] - 1);
    }

    static int bit(boolean is) {
        return is ? 1 : 0;
    }

    int cabinet(int place, int clock) {
        if (!isPlace(place) || !in(clock, 0, 2323) || clock % 100 > 23) {
            return BAD;
        }
        if (w.cabinets.size() == 3) {
            return FULL;
        }
        Cabinet c = new Cabinet();
        c.place = place;
        c.on = clock / 100;
        c.off = clock % 100;
        w.cabinets.add(c);
        return w.cabinets.size() - 1;
    }

    int cabinetTold(int cabinet, int what) {
        if (!has(0, cabinet) || !in(what, 0, 8)) {
            return BAD;
        }
        Cabinet c = w.cabinets.get(cabinet);
        return new int[] {c.place, c.on, c.off, c.shift, bit(w.isNight(c)), bit(c.broken), w.sum(cabinet, -1, false), w.sum(cabinet, -1, true), c.paid}[what];
    }

    int shift(int cabinet, int v) {
        if (!has(0, cabinet) || !in(v, -3, 3)) {
            return BAD;
        }
        int was = w.cabinets.get(cabinet).shift;
        w.cabinets.get(cabinet).shift = v;
        return was;
    }

    int joint(int feed, int place) {
        if (!(in(feed, 0, 11) && has(1, feed) || in(feed, 100, 102) && has(0, feed - 100)) || !isPlace(place)) {
            return BAD;
        }
        if (w.joints.size() == 12) {
            return FULL;
        }
        Joint j = new Joint();
        j.feed = feed;
        j.place = place;
        w.joints.add(j);
        return w.joints.size() - 1;
    }

    int jointTold(int joint, int what) {
        if (!has(1, joint) || !in(what, 0, 4)) {
            return BAD;
        }
        Joint j = w.joints.get(joint);
        return new int[] {j.feed, j.place, w.cabinetOfJoint(joint), bit(j.broken), (int) w.lamps.stream().filter(l -> l.joint == joint).count()}[what];
    }

    int lamp(int kind, int joint, int of) {
        if (!in(kind, 0, 5) || !has(1, joint) || !in(of, 10, 999) || of % 10 > 3) {
            return BAD;
        }
        if (w.lamps.size() == 16) {
            return FULL;
        }
        Lamp l = new Lamp();
        l.kind = kind;
        l.joint = joint;
        l.draw = of / 10;
        l.ofClass = of % 10;
        w.lamps.add(l);
        return w.lamps.size() - 1;
    }

    int told(int lamp, int what) {
        if (!has(2, lamp) || !in(what, 0, 12)) {
            return BAD;
        }
        Lamp l = w.lamps.get(lamp);
        return new int[] {l.kind, l.joint, l.draw, l.ofClass, l.burnt, bit(l.out), bit(w.fed(l)), bit(w.should(l)), bit(w.burns(l)),
            w.draws(l), KINDS[l.kind].wear(), w.life(l), bit(l.dark)}[what];
    }

    int as(int lamp, int kind) {
        if (!has(2, lamp) || !in(kind, 0, 5)) {
            return BAD;
        }
        return isA(w.lamps.get(lamp).kind, kind) ? w.lamps.get(lamp).burnt : KIND;
    }

    int change(int lamp, int kind) {
        if (!has(2, lamp) || !in(kind, 0, 5)) {
            return BAD;
        }
        Lamp l = w.lamps.get(lamp);
        int was = l.kind;
        l.kind = kind;
        l.burnt = 0;
        l.out = false;
        return was;
    }

    int feast(int v) {
        if (!in(v, 1, 99)) {
            return BAD;
        }
        int was = w.feast;
        w.feast = v;
        return was;
    }

    int breaks(int what, int k) {
        return setBroken(what, k, true);
    }

    int mend(int what, int k) {
        return setBroken(what, k, false);
    }

    private int setBroken(int what, int k, boolean is) {
        if (!has(what, k)) {
            return BAD;
        }
        boolean was = what == 0 ? w.cabinets.get(k).broken : what == 1 ? w.joints.get(k).broken : w.lamps.get(k).out;
        switch (what) {
            case 0: w.cabinets.get(k).broken = is; break;
            case 1: w.joints.get(k).broken = is; break;
            default: w.lamps.get(k).out = is; break;
        }
        return bit(was != is);
    }

    int hours(int n) {
        if (!in(n, 1, 60)) {
            return BAD;
        }
        if (w.day * 24 + w.hour + n >= 1000 * 24) {
            return FULL;
        }
        for (int i = 0; i < n; i++) {
            w.anHour();
        }
        return w.hour;
    }

    int bill(int cabinet) {
        if (!has(0, cabinet)) {
            return BAD;
        }
        int paid = w.cabinets.get(cabinet).paid;
        w.cabinets.get(cabinet).paid = 0;
        return paid;
    }

    int light(int of) {
        return in(of, 0, 3) ? w.sum(-1, of, true) : BAD;
    }

    int tooDark() {
        int bits = 0;
        for (int c = 0; c < 4; c++) {
            Lamp any = new Lamp();
            any.ofClass = c;
            bits += light(c) < w.gives(3, 0, any) ? 1 << c : 0;
        }
        return bits;
    }

    int feed(int a, int b, int c) {
        if (tape.length() + 12 > 96) {
            return FULL;
        }
        for (long v : new long[] {a, b, c}) {
            for (int i = 3; i >= 0; i--) {
                tape += (char) (((v + (1L << 32)) >> (8 * i)) % 256);
            }
        }
        return tape.length();
    }

    int trim(int n) {
        if (!in(n, 0, tape.length())) {
            return BAD;
        }
        tape = tape.substring(0, n);
        return n;
    }

    int text() {
        String read = tape;
        tape = "";
        int fault = fault(read);
        if (fault >= 0) {
            return -100 - fault;
        }
        if (w.texts.size() == 14) {
            return FULL;
        }
        w.texts.add(read);
        return w.texts.size() - 1;
    }

    int textTold(int text, int what) {
        if (!in(text, 0, w.texts.size() - 1) || !in(what, 0, 1)) {
            return BAD;
        }
        return what == 0 ? keyOf(w.texts.get(text)) : atoms(w.texts.get(text));
    }

    int why(int key) {
        return in(key, 0, 3) ? w.textOf(key) : BAD;
    }

    int dark(int lamp, boolean is) {
        if (!has(2, lamp)) {
            return BAD;
        }
        boolean was = w.lamps.get(lamp).dark;
        w.lamps.get(lamp).dark = is;
        return bit(was != is);
    }

    int blame(int what, int k) {
        return has(what, k) ? bit(w.blamed().contains(new int[] {100, 0, 1000}[what] + k)) : BAD;
    }

    int blames() {
        return w.blamed().size();
    }

    private static int tellOne(List<Integer> row, int k, int most) {
        if (row.contains(k)) {
            return NO;
        }
        if (row.size() == most) {
            return FULL;
        }
        row.add(k);
        return row.size();
    }

    private static int tellNone(List<Integer> row) {
        int were = row.size();
        row.clear();
        return were;
    }

    int choose(int lamp) {
        return has(2, lamp) ? tellOne(w.chosen, lamp, 8) : BAD;
    }

    int clear() {
        return tellNone(w.chosen);
    }

    int guess(int v) {
        if (!in(v, 0, 9999)) {
            return BAD;
        }
        // fewest first, then the least as bits
        for (int many = 0; many <= w.chosen.size(); many++) {
            for (int bits = 0; bits < 1 << w.chosen.size(); bits++) {
                int sum = 0;
                int of = 0;
                boolean all = true;
                for (int i = 0; i < w.chosen.size(); i++) {
                    if ((bits & 1 << i) != 0) {
                        Lamp l = w.lamps.get(w.chosen.get(i));
                        all = all && w.should(l);
                        sum += w.draws(l);
                        of++;
                    }
                }
                if (of == many && all && sum == v) {
                    return bits;
                }
            }
        }
        return NONE;
    }

    int stop(int joint) {
        return has(1, joint) ? tellOne(w.stops, joint, 6) : BAD;
    }

    int home() {
        return tellNone(w.stops);
    }

    private static void orders(List<Integer> begun, List<Integer> left, List<List<Integer>> all) {
        if (left.isEmpty()) {
            all.add(begun);
        }
        for (int i = 0; i < left.size(); i++) {
            List<Integer> next = new ArrayList<>(begun);
            List<Integer> rest = new ArrayList<>(left);
            next.add(rest.remove(i));
            orders(next, rest, all);
        }
    }

    private int length(int cabinet, List<Integer> order) {
        List<Integer> places = new ArrayList<>();
        places.add(w.cabinets.get(cabinet).place);
        order.forEach(j -> places.add(w.joints.get(j).place));
        places.add(places.get(0));
        int sum = 0;
        for (int i = 1; i < places.size(); i++) {
            int a = places.get(i - 1);
            int b = places.get(i);
            sum += Math.max(a / 100, b / 100) - Math.min(a / 100, b / 100) + Math.max(a % 100, b % 100) - Math.min(a % 100, b % 100);
        }
        return sum;
    }

    int round(int cabinet, int what) {
        if (!has(0, cabinet) || !in(what, -1, w.stops.size() - 1)) {
            return BAD;
        }
        List<List<Integer>> all = new ArrayList<>();
        orders(List.of(), w.stops, all);
        List<Integer> best = all.get(0);
        for (List<Integer> order : all) {
            if (length(cabinet, order) < length(cabinet, best)) {
                best = order;
            }
        }
        return what == -1 ? length(cabinet, best) : best.get(what);
    }

    int together(int kind, int prices, int what) {
        if (!in(kind, 0, 5) || !in(prices, 0, 999999) || !in(what, 0, 1)) {
            return BAD;
        }
        List<Lamp> of = w.lamps.stream().filter(l -> isA(l.kind, kind)).toList();
        if (of.isEmpty()) {
            return NONE;
        }
        int[] costs = new int[20];
        for (int t = 1; t <= 20; t++) {
            int bound = 250 * t;
            long early = of.stream().filter(l -> w.life(l) < bound).count();
            costs[t - 1] = (int) ((of.size() * (prices / 1000) + early * (prices % 1000)) * 100 / t);
        }
        int least = Arrays.stream(costs).min().getAsInt();
        for (int t = 1; t <= 20; t++) {
            if (costs[t - 1] == least) {
                return what == 0 ? t : least;
            }
        }
        throw new IllegalStateException();
    }

    int sheet(int sheet, int sort, int n) {
        if (!in(sheet, 0, 3) || !in(sort, -1, 1) || sort != -1 && n > 24) {
            return BAD;
        }
        if (sort == -1) {
            sheets[sheet] = null;
            return 0;
        }
        if (n < 0) {
            return SIZE;
        }
        List<Integer> places = new ArrayList<>();
        for (int i = 0; i < n; i++) {
            places.add(0);
        }
        sheets[sheet] = new Sheet(sort, places);
        return n;
    }

    int mark(int sheet, int place, int v) {
        if (!in(sheet, 0, 3)) {
            return BAD;
        }
        Sheet s = sheets[sheet];
        if (s == null) {
            return NOTHING;
        }
        if (!in(place, 0, s.places.size() - 1)) {
            return INDEX;
        }
        if (s.sort == 0 && v == NONE) {
            return KIND;
        }
        if (s.sort == 1 && v != NONE && !in(v, -99999, 99999)) {
            return BAD;
        }
        s.places.set(place, s.sort == 0 ? Integer.valueOf((short) (v & 65535)) : v == NONE ? null : Integer.valueOf(v));
        return 1;
    }

    int fits(int sheet, int cabinet) {
        if (!in(sheet, 0, 3) || !has(0, cabinet)) {
            return BAD;
        }
        if (sheets[sheet] == null) {
            return NOTHING;
        }
        World trial = w.twin();
        int place = 0;
        for (Integer v : sheets[sheet].places) {
            if (v != null && v != trial.sum(cabinet, -1, true)) {
                return place;
            }
            trial.anHour();
            place++;
        }
        return NONE;
    }

    int copy(int from, int place, int to, int at, int many) {
        if (!in(from, 0, 3) || !in(to, 0, 3)) {
            return BAD;
        }
        if (sheets[from] == null || sheets[to] == null) {
            return NOTHING;
        }
        if (sheets[from].sort != sheets[to].sort) {
            return KIND;
        }
        if (many < 0 || place < 0 || at < 0 || (long) place + many > sheets[from].places.size() || (long) at + many > sheets[to].places.size()) {
            return INDEX;
        }
        List<Integer> were = new ArrayList<>(sheets[from].places.subList(place, place + many));
        for (int i = 0; i < many; i++) {
            sheets[to].places.set(at + i, were.get(i));
        }
        return many;
    }

    int lay(int slot, int thing, int k) {
        if (!in(slot, 0, 4) || !in(thing, 0, 3) || thing == 1 && !has(2, k) || thing == 2 && !in(k, 0, 3)) {
            return BAD;
        }
        if (thing == 2 && sheets[k] == null) {
            return NOTHING;
        }
        Object held = slots[slot];
        switch (thing) {
            case 0: slots[slot] = null; break;
            case 1: slots[slot] = w.twin().lamps.get(k); break;
            case 2: slots[slot] = new Sheet(sheets[k].sort, new ArrayList<>(sheets[k].places)); break;
            default: slots[slot] = k; break;
        }
        return held == null ? 0 : held instanceof Lamp ? 1 : held instanceof Sheet ? 2 : 3;
    }

    int ask(int slot, int kind) {
        if (!in(slot, 0, 4) || !in(kind, 0, 5)) {
            return BAD;
        }
        if (slots[slot] == null) {
            return NOTHING;
        }
        return slots[slot] instanceof Lamp l && isA(l.kind, kind) ? KINDS[l.kind].wear() : KIND;
    }

    int item(int slot, int place) {
        if (!in(slot, 0, 4)) {
            return BAD;
        }
        if (slots[slot] == null) {
            return NOTHING;
        }
        if (!(slots[slot] instanceof Sheet s)) {
            return KIND;
        }
        if (!in(place, 0, s.places.size() - 1)) {
            return INDEX;
        }
        return s.places.get(place) == null ? KIND : s.places.get(place);
    }

    int rest(int slot, int n) {
        if (!in(slot, 0, 4)) {
            return BAD;
        }
        if (slots[slot] == null) {
            return NOTHING;
        }
        if (!(slots[slot] instanceof Integer v)) {
            return KIND;
        }
        return n == 0 ? NO : (int) ((long) v - (long) v / n * n);
    }

    int tell(int v) {
        if (waiting.size() == 60) {
            return FULL;
        }
        waiting.add(v);
        return waiting.size();
    }

    int check(int n) {
        List<Integer> told = waiting;
        waiting = new ArrayList<>();
        if (!in(n, 1, 30)) {
            return BAD;
        }
        if (image == null) {
            return NO;
        }
        List<Integer> due = told(image, n);
        if (told.equals(due)) {
            return 0;
        }
        int right = 0;
        while (right < told.size() && right < due.size() && told.get(right).equals(due.get(right))) {
            right++;
        }
        return 1 + right;
    }

    static List<Integer> told(World from, int n) {
        World trial = from.twin();
        List<Integer> due = new ArrayList<>();
        for (int i = 0; i < n; i++) {
            int drawn = 0;
            for (int c = 0; c < trial.cabinets.size(); c++) {
                drawn += trial.sum(c, -1, true);
            }
            due.add(drawn);
            trial.anHour();
            due.add(trial.out());
        }
        return due;
    }

    int keep() {
        image = w.twin();
        return w.hour;
    }

    int back() {
        if (image == null) {
            return NO;
        }
        w = image.twin();
        return w.hour;
    }

    int count(int what) {
        if (!in(what, 0, 12)) {
            return BAD;
        }
        long broken = w.cabinets.stream().filter(c -> c.broken).count() + w.joints.stream().filter(j -> j.broken).count();
        return new int[] {w.cabinets.size(), w.joints.size(), w.lamps.size(), w.out(), (int) broken, w.texts.size(), w.chosen.size(), w.stops.size(),
            (int) w.lamps.stream().filter(l -> l.dark).count(), w.hour, w.day, waiting.size(), tape.length()}[what];
    }
}
