import java.util.ArrayList;
import java.util.List;
import java.util.Random;

/** Random runs of 512 calls at most on the class and on Model, with seeds that are fixed. */
public final class ModelTest {
    private static final int RUNS = 900;
    private static final int CALLS = 512;
    /** One act makes so many calls at most; an object's 512th call is the last that is promised. */
    private static final int CALLS_OF_AN_ACT = 64;
    private static final int[] ODD = {Integer.MIN_VALUE, Integer.MAX_VALUE, -1, -2, 1000, 100000, TownLamps.NONE, 13, 25, 61, 99, 103};

    private static final String SPOILERS = "hdckw0159|&<=>+-*/!()  %A\t\u00f0\0";

    private final Random random;
    private final TownLamps x = new TownLamps();
    private final Model m = new Model();
    private final List<String> calls = new ArrayList<>();
    private boolean isGood = true;

    private ModelTest(long seed) {
        random = new Random(seed);
    }

    public static void main(String[] args) {
        for (int seed = 0; seed < RUNS; seed++) {
            new ModelTest(seed).run(seed);
        }
        for (int seed = 0; seed < 20000; seed++) {
            new ModelTest(seed).oneText();
        }
        Due.end();
    }

    private void run(int seed) {
        int wild = seed % 4 == 0 ? 5 : 40;
        if (seed % 5 == 1) {
            lateDays();
        }
        while (calls.size() <= CALLS - CALLS_OF_AN_ACT && isGood) {
            act(random.nextInt(46), wild);
        }
        if (!isGood) {
            System.out.println("seed " + seed + ", " + calls.size() + " calls, the last:");
            calls.subList(Math.max(0, calls.size() - 12), calls.size()).forEach(c -> System.out.println("  " + c));
        }
    }

    private void lateDays() {
        for (int i = 0; i < 390; i++) {
            both("hours(60)", x.hours(60), m.hours(60));
        }
    }

    private void oneText() {
        String text = wholeText();
        for (int i = random.nextInt(4); i > 0; i--) {
            text = spoil(text);
        }
        feedAll(text);
        both("text of [" + text + "]", x.text(), m.text());
        for (int i = 0; i < m.w.texts.size(); i++) {
            both("textTold(0, 1) of [" + text + "]", x.textTold(0, 1), m.textTold(0, 1));
        }
    }

    private void both(String call, int got, int want) {
        calls.add(call + " = " + got);
        Due.is(call, got, want);
        isGood = isGood && got == want;
    }

    /** A number of 0 to most, one time in wild another one. */
    private int arg(int most, int wild) {
        if (random.nextInt(wild) == 0) {
            return random.nextBoolean() ? ODD[random.nextInt(ODD.length)] : most + 1 - random.nextInt(2) * (most + 2);
        }
        return random.nextInt(Math.max(1, most + 1));
    }

    private int place() {
        return random.nextInt(31) * 100 + random.nextInt(31);
    }

    private int lampArg(int wild) {
        return arg(m.w.lamps.size() - 1, wild);
    }

    private int jointArg(int wild) {
        return arg(m.w.joints.size() - 1, wild);
    }

    private int cabinetArg(int wild) {
        return arg(m.w.cabinets.size() - 1, wild);
    }

    private void act(int call, int wild) {
        if (call < 14) {
            actOnThings(call, wild);
        } else if (call < 26) {
            actOnHours(call, wild);
        } else if (call < 36) {
            actOnSheets(call, wild);
        } else {
            actOnRows(call, wild);
        }
    }

    private void actOnThings(int call, int wild) {
        int a;
        int b;
        int c;
        switch (call) {
            case 0:
                a = random.nextInt(wild) == 0 ? arg(3130, 2) : place();
                b = random.nextInt(wild) == 0 ? arg(2424, 2) : random.nextInt(24) * 100 + random.nextInt(24);
                both("cabinet(" + a + ", " + b + ")", x.cabinet(a, b), m.cabinet(a, b));
                break;
            case 1:
                a = cabinetArg(wild);
                b = arg(8, wild);
                both("cabinetTold(" + a + ", " + b + ")", x.cabinetTold(a, b), m.cabinetTold(a, b));
                break;
            case 2:
                a = cabinetArg(wild);
                b = arg(6, wild) - 3;
                both("shift(" + a + ", " + b + ")", x.shift(a, b), m.shift(a, b));
                break;
            case 3:
                a = random.nextInt(3) == 0 ? 100 + cabinetArg(wild) : jointArg(wild);
                b = random.nextInt(wild) == 0 ? arg(3130, 2) : place();
                both("joint(" + a + ", " + b + ")", x.joint(a, b), m.joint(a, b));
                break;
            case 4:
                a = jointArg(wild);
                b = arg(4, wild);
                both("jointTold(" + a + ", " + b + ")", x.jointTold(a, b), m.jointTold(a, b));
                break;
            case 5:
            case 6:
                a = arg(5, wild);
                b = jointArg(wild);
                c = random.nextInt(wild) == 0 ? arg(1010, 2) : 10 * (1 + random.nextInt(99)) + random.nextInt(4);
                both("lamp(" + a + ", " + b + ", " + c + ")", x.lamp(a, b, c), m.lamp(a, b, c));
                break;
            case 7:
            case 8:
                a = lampArg(wild);
                b = arg(12, wild);
                both("told(" + a + ", " + b + ")", x.told(a, b), m.told(a, b));
                break;
            case 9:
                a = lampArg(wild);
                b = arg(5, wild);
                both("as(" + a + ", " + b + ")", x.as(a, b), m.as(a, b));
                break;
            case 10:
                a = lampArg(wild);
                b = arg(5, wild);
                both("change(" + a + ", " + b + ")", x.change(a, b), m.change(a, b));
                break;
            case 11:
                a = 1 + arg(random.nextBoolean() ? 2 : 98, wild);
                both("feast(" + a + ")", x.feast(a), m.feast(a));
                break;
            case 12:
                a = arg(2, wild);
                b = a == 0 ? cabinetArg(wild) : a == 1 ? jointArg(wild) : lampArg(wild);
                both("breaks(" + a + ", " + b + ")", x.breaks(a, b), m.breaks(a, b));
                break;
            default:
                a = arg(2, wild);
                b = a == 0 ? cabinetArg(wild) : a == 1 ? jointArg(wild) : lampArg(wild);
                both("mend(" + a + ", " + b + ")", x.mend(a, b), m.mend(a, b));
                break;
        }
    }

    private void actOnHours(int call, int wild) {
        int a;
        int b;
        int c;
        switch (call) {
            case 14:
                a = 1 + arg(random.nextBoolean() ? 3 : 59, wild);
                both("hours(" + a + ")", x.hours(a), m.hours(a));
                break;
            case 15:
                a = cabinetArg(wild);
                both("bill(" + a + ")", x.bill(a), m.bill(a));
                break;
            case 16:
                a = arg(3, wild);
                both("light(" + a + ")", x.light(a), m.light(a));
                both("tooDark()", x.tooDark(), m.tooDark());
                break;
            case 17:
                feedAll(random.nextInt(3) == 0 ? spoil(wholeText()) : wholeText());
                both("text()", x.text(), m.text());
                break;
            case 18:
                a = random.nextInt();
                b = random.nextInt();
                c = random.nextInt();
                both("feed(" + a + ", " + b + ", " + c + ")", x.feed(a, b, c), m.feed(a, b, c));
                a = arg(96, wild);
                both("trim(" + a + ")", x.trim(a), m.trim(a));
                break;
            case 19:
                a = arg(m.w.texts.size() - 1, wild);
                b = arg(1, wild);
                both("textTold(" + a + ", " + b + ")", x.textTold(a, b), m.textTold(a, b));
                a = arg(3, wild);
                both("why(" + a + ")", x.why(a), m.why(a));
                break;
            case 20:
                a = lampArg(wild);
                boolean is = random.nextInt(4) != 0;
                both("dark(" + a + ", " + is + ")", x.dark(a, is), m.dark(a, is));
                break;
            case 21:
                a = arg(2, wild);
                b = a == 0 ? cabinetArg(wild) : a == 1 ? jointArg(wild) : lampArg(wild);
                both("blame(" + a + ", " + b + ")", x.blame(a, b), m.blame(a, b));
                both("blames()", x.blames(), m.blames());
                break;
            case 22:
                a = lampArg(wild);
                both("choose(" + a + ")", x.choose(a), m.choose(a));
                if (random.nextInt(12) == 0) {
                    both("clear()", x.clear(), m.clear());
                }
                break;
            case 23:
                a = random.nextInt(4) == 0 ? arg(9999, wild) : arg(150, wild);
                both("guess(" + a + ")", x.guess(a), m.guess(a));
                break;
            case 24:
                a = jointArg(wild);
                both("stop(" + a + ")", x.stop(a), m.stop(a));
                if (random.nextInt(12) == 0) {
                    both("home()", x.home(), m.home());
                }
                break;
            default:
                a = cabinetArg(wild);
                b = arg(m.w.stops.size(), wild) - 1;
                both("round(" + a + ", " + b + ")", x.round(a, b), m.round(a, b));
                break;
        }
    }

    private void actOnSheets(int call, int wild) {
        int a = arg(3, wild);
        int b;
        int c;
        switch (call) {
            case 26:
                b = arg(5, wild);
                c = random.nextInt(wild) == 0 ? arg(999999, 1) : random.nextInt(1000) * 1000 + random.nextInt(1000);
                int what = arg(1, wild);
                both("together(" + b + ", " + c + ", " + what + ")", x.together(b, c, what), m.together(b, c, what));
                break;
            case 27:
                b = random.nextInt(6) == 0 ? -1 : arg(1, wild);
                c = arg(24, wild);
                both("sheet(" + a + ", " + b + ", " + c + ")", x.sheet(a, b, c), m.sheet(a, b, c));
                break;
            case 28:
            case 29:
                b = arg(m.sheets[a & 3] == null ? 3 : m.sheets[a & 3].places().size() - 1, wild);
                c = random.nextInt(5) == 0 ? TownLamps.NONE : random.nextInt(8) == 0 ? random.nextInt() : random.nextInt(300000) - 150000;
                both("mark(" + a + ", " + b + ", " + c + ")", x.mark(a, b, c), m.mark(a, b, c));
                break;
            case 30:
                fitted(a & 3, cabinetArg(wild));
                break;
            case 31:
                b = arg(3, wild);
                int from = arg(24, wild);
                int at = arg(24, wild);
                c = arg(random.nextBoolean() ? 2 : 12, wild);
                both("copy(" + a + ", " + from + ", " + b + ", " + at + ", " + c + ")", x.copy(a, from, b, at, c), m.copy(a, from, b, at, c));
                break;
            case 32:
                a = arg(4, wild);
                b = arg(3, wild);
                c = b == 1 ? lampArg(wild) : b == 2 ? arg(3, wild) : random.nextInt();
                both("lay(" + a + ", " + b + ", " + c + ")", x.lay(a, b, c), m.lay(a, b, c));
                break;
            case 33:
                a = arg(4, wild);
                b = arg(5, wild);
                both("ask(" + a + ", " + b + ")", x.ask(a, b), m.ask(a, b));
                break;
            case 34:
                a = arg(4, wild);
                b = arg(10, wild);
                both("item(" + a + ", " + b + ")", x.item(a, b), m.item(a, b));
                break;
            default:
                a = arg(4, wild);
                b = random.nextInt(3) == 0 ? random.nextInt() : arg(40, wild) - 20;
                both("rest(" + a + ", " + b + ")", x.rest(a, b), m.rest(a, b));
                break;
        }
    }

    /** Marks what the model draws in the hours that come, at times with one wrong, and asks whether it fits. */
    private void fitted(int sheet, int cabinet) {
        if (m.sheets[sheet] != null && m.has(0, cabinet) && random.nextInt(4) != 0) {
            Model.World trial = m.w.twin();
            int wrong = random.nextBoolean() ? -1 : random.nextInt(24);
            for (int i = 0; i < m.sheets[sheet].places().size(); i++) {
                int v = trial.sum(cabinet, -1, true) + (i == wrong ? 1 : 0);
                both("mark(" + sheet + ", " + i + ", " + v + ")", x.mark(sheet, i, v), m.mark(sheet, i, v));
                if (random.nextInt(6) == 0) {
                    both("mark(" + sheet + ", " + i + ", NONE)", x.mark(sheet, i, TownLamps.NONE), m.mark(sheet, i, TownLamps.NONE));
                }
                trial.anHour();
            }
        }
        both("fits(" + sheet + ", " + cabinet + ")", x.fits(sheet, cabinet), m.fits(sheet, cabinet));
    }

    private void actOnRows(int call, int wild) {
        int a;
        switch (call) {
            case 36:
                a = random.nextInt();
                both("tell(" + a + ")", x.tell(a), m.tell(a));
                break;
            case 37:
            case 38:
                a = 1 + arg(random.nextBoolean() ? 4 : 29, wild);
                checked(a);
                break;
            case 39:
                both("keep()", x.keep(), m.keep());
                break;
            case 40:
                both("back()", x.back(), m.back());
                break;
            default:
                a = arg(12, wild);
                both("count(" + a + ")", x.count(a), m.count(a));
                break;
        }
    }

    private void checked(int n) {
        if (m.image != null && Model.in(n, 1, 30) && m.waiting.isEmpty()) {
            List<Integer> due = Model.told(m.image, n);
            int wrong = random.nextBoolean() ? -1 : random.nextInt(due.size());
            int many = due.size() + (random.nextInt(3) == 0 ? random.nextInt(5) - 2 : 0);
            for (int i = 0; i < many; i++) {
                int v = (i < due.size() ? due.get(i) : 0) + (i == wrong ? 1 : 0);
                both("tell(" + v + ")", x.tell(v), m.tell(v));
            }
        }
        both("check(" + n + ")", x.check(n), m.check(n));
    }

    // ---- texts

    private void feedAll(String text) {
        both("trim(0)", x.trim(0), m.trim(0));
        byte[] bytes = Towns.bytes(text);
        int size = Math.min(96, bytes.length);
        for (int i = 0; i < size; i += 12) {
            int[] v = new int[3];
            for (int j = 0; j < 12; j++) {
                v[j / 4] = v[j / 4] << 8 | (i + j < bytes.length ? bytes[i + j] & 255 : 0);
            }
            both("feed", x.feed(v[0], v[1], v[2]), m.feed(v[0], v[1], v[2]));
        }
        both("trim(" + size + ")", x.trim(size), m.trim(size));
    }

    private String wholeText() {
        int key = random.nextInt(4);
        String text;
        do {
            text = Model.KEYS[key] + " " + expression(random.nextInt(5), Model.NAMES[key]);
            if (random.nextInt(3) == 0) {
                text = text.replace("(", "( ").replace("+", " + ");
            }
        } while (text.length() > 96);
        return text;
    }

    private String expression(int depth, String names) {
        if (depth == 0) {
            if (random.nextBoolean()) {
                return String.valueOf(names.charAt(random.nextInt(names.length())));
            }
            return String.valueOf(random.nextInt(random.nextBoolean() ? 30 : 10000));
        }
        switch (random.nextInt(8)) {
            case 0: return "!" + "!".repeat(random.nextInt(7)) + expression(0, names);
            case 1: return "(" + expression(depth - 1, names) + ")";
            case 2: return "!(" + expression(depth - 1, names) + ")";
            case 3: return "(".repeat(random.nextInt(9)) + expression(depth - 1, names);
            default:
                String sign = String.valueOf("|&<=>+-*/*+-".charAt(random.nextInt(12)));
                return expression(depth - 1, names) + sign + expression(random.nextInt(depth), names);
        }
    }

    private String spoil(String text) {
        StringBuilder s = new StringBuilder(text);
        int at = random.nextInt(s.length() + 1);
        switch (random.nextInt(5)) {
            case 0: s.insert(at, SPOILERS.charAt(random.nextInt(SPOILERS.length()))); break;
            case 1: s.insert(at, "  "); break;
            case 2: s.insert(at, random.nextBoolean() ? "((((" : "!!!!"); break;
            case 3: s.setLength(at); break;
            default:
                if (at < s.length()) {
                    s.deleteCharAt(at);
                }
                break;
        }
        return s.toString();
    }
}
