import java.util.Arrays;

/** Promises 33 to 40: sheets, slots. */
public final class SheetsTest {
    private static final int BAD = TownLamps.BAD;
    private static final int NO = TownLamps.NO;
    private static final int NONE = TownLamps.NONE;
    private static final int NOTHING = TownLamps.NOTHING;
    private static final int KIND = TownLamps.KIND;
    private static final int INDEX = TownLamps.INDEX;
    private static final int SIZE = TownLamps.SIZE;
    private static final int MIN = Integer.MIN_VALUE;
    private static final int MAX = Integer.MAX_VALUE;

    public static void main(String[] args) {
        promise33();
        promise34();
        promise35();
        promise35BeyondTheLastDay();
        promise36();
        promise37();
        promise38();
        promise39();
        promise40();
        Due.end();
    }

    /** The row of a sheet, by way of slot 4: NO NUMBER as x, a missing one as -. */
    private static String row(TownLamps x, int sheet) {
        if (x.lay(4, 2, sheet) == NOTHING) {
            return "-";
        }
        StringBuilder s = new StringBuilder();
        for (int i = 0; x.item(4, i) != INDEX; i++) {
            int v = x.item(4, i);
            s.append(i == 0 ? "" : " ").append(v == KIND ? "x" : String.valueOf(v));
        }
        return s.toString();
    }

    private static void fill(TownLamps x, int sheet, int sort, int... values) {
        x.sheet(sheet, sort, values.length);
        for (int i = 0; i < values.length; i++) {
            x.mark(sheet, i, values[i]);
        }
    }

    private static void promise33() {
        TownLamps x = new TownLamps();
        Due.same("missing at first", row(x, 0), "-");
        Due.is("sheet(0, 0, 3)", x.sheet(0, 0, 3), 3);
        Due.same("all 0", row(x, 0), "0 0 0");
        fill(x, 0, 1, 5, NONE, 7);
        Due.same("filled", row(x, 0), "5 x 7");
        Due.is("made anew", x.sheet(0, 1, 4), 4);
        Due.same("all 0 anew", row(x, 0), "0 0 0 0");
        Due.is("24 places", x.sheet(3, 1, 24), 24);
        Due.is("0 places", x.sheet(1, 0, 0), 0);
        Due.same("0 places", row(x, 1), "");
        Due.is("no place", x.mark(1, 0, 1), INDEX);
        Due.is("missing", x.sheet(0, -1, 5), 0);
        Due.same("missing", row(x, 0), "-");
        Due.is("missing, n any", x.sheet(1, -1, MAX), 0);
        Due.is("missing, n below 0", x.sheet(1, -1, MIN), 0);
        x.sheet(2, 0, 2);
        int[][] bad = {{-1, 0, 1}, {4, 0, 1}, {MAX, 0, 1}, {MIN, -1, 1}, {2, -2, 1}, {2, 2, 1}, {2, MAX, 1}, {2, MIN, 1}, {2, 0, 25}, {2, 1, MAX}, {4, 0, -1}, {2, 2, -1}};
        for (int[] b : bad) {
            Due.is("sheet" + Arrays.toString(b), x.sheet(b[0], b[1], b[2]), BAD);
        }
        Due.is("below 0", x.sheet(2, 0, -1), SIZE);
        Due.is("far below 0", x.sheet(2, 1, MIN), SIZE);
        Due.same("after refusals", row(x, 2), "0 0");
    }

    private static void promise34() {
        TownLamps x = new TownLamps();
        Due.is("missing", x.mark(0, 0, 1), NOTHING);
        Due.is("missing is ahead of INDEX", x.mark(0, -1, NONE), NOTHING);
        x.sheet(0, 0, 6);
        int[] values = {1, -1, 32767, 32768, 65536 + 5, MIN};
        for (int i = 0; i < 6; i++) {
            Due.is("mark", x.mark(0, i, values[i]), 1);
        }
        Due.same("the lowest 16 bits", row(x, 0), "1 -1 32767 -32768 5 0");
        Due.is("NONE in shorts", x.mark(0, 0, NONE), KIND);
        Due.is("no place 6", x.mark(0, 6, 1), INDEX);
        Due.is("no place -1", x.mark(0, -1, 1), INDEX);
        Due.is("INDEX is ahead of KIND", x.mark(0, 6, NONE), INDEX);
        x.sheet(1, 1, 4);
        int[] floats = {99999, -99999, NONE, 32768};
        for (int i = 0; i < 4; i++) {
            Due.is("mark of floats", x.mark(1, i, floats[i]), 1);
        }
        Due.same("floats", row(x, 1), "99999 -99999 x 32768");
        for (int v : new int[] {100000, -100000, MAX, MIN, NONE + 1, NONE - 1, BAD}) {
            Due.is("mark of floats " + v, x.mark(1, 0, v), BAD);
        }
        Due.is("INDEX is ahead of BAD", x.mark(1, 4, 100000), INDEX);
        Due.is("NO NUMBER becomes a number", x.mark(1, 2, 3), 1);
        for (int s : new int[] {-1, 4, MAX, MIN}) {
            Due.is("mark(" + s + ")", x.mark(s, 0, 1), BAD);
        }
        Due.same("shorts after refusals", row(x, 0), "1 -1 32767 -32768 5 0");
        Due.same("floats after refusals", row(x, 1), "99999 -99999 3 32768");
    }

    private static void promise35() {
        TownLamps x = Towns.withAll();
        // cabinet 0 at 18 .. 23: 207; at 0 of day 1 (no feast): 50 + 20 + 16 + 30 + 10
        fill(x, 0, 0, 207, 207, 207, 207, 207, 207, 126, 126);
        Due.is("fits", x.fits(0, 0), NONE);
        x.mark(0, 7, 127);
        Due.is("fits up to 7", x.fits(0, 0), 7);
        x.mark(0, 3, 0);
        Due.is("fits up to 3", x.fits(0, 0), 3);
        fill(x, 1, 1, NONE, 207, NONE, NONE, NONE, NONE, 126, 207, NONE);
        Due.is("fits where numbers are", x.fits(1, 0), 7);
        x.mark(1, 7, NONE);
        Due.is("fits with no number there", x.fits(1, 0), NONE);
        Due.is("does not fit the other", x.fits(1, 1), 1);
        x.sheet(2, 0, 0);
        Due.is("no places fit", x.fits(2, 0), NONE);
        x.breaks(1, 1);
        Due.is("what burns alone", x.fits(1, 0), 1);
        x.mend(1, 1);
        // lamps go out on the way, and nothing changes
        Towns.text(x, "life 2");
        fill(x, 0, 0, 207, 167, 0, 0);
        String before = Towns.all(x);
        Due.is("they go out", x.fits(0, 0), NONE);
        Due.same("nothing changes", Towns.all(x), before);
        Due.is("missing", x.fits(3, 0), NOTHING);
        int[][] bad = {{-1, 0}, {4, 0}, {MAX, 0}, {MIN, 0}, {0, -1}, {0, 2}, {0, MAX}, {0, MIN}, {3, 2}};
        for (int[] b : bad) {
            Due.is("fits" + Arrays.toString(b), x.fits(b[0], b[1]), BAD);
        }
    }

    private static void promise35BeyondTheLastDay() {
        TownLamps x = new TownLamps();
        for (int i = 0; i < 399; i++) {
            x.hours(60);
        }
        x.hours(40);
        Due.is("DAY", x.count(10), 999);
        Due.is("HOUR", x.count(9), 22);
        x.cabinet(0, 0);
        x.joint(100, 0);
        x.lamp(4, 0, 100);
        x.feast(8);
        // DAY 999 is no feast; 1000 is
        fill(x, 0, 0, 0, 0, 15, 15);
        Due.is("beyond DAY 999", x.fits(0, 0), NONE);
        Due.is("DAY still", x.count(10), 999);
    }

    private static void promise36() {
        TownLamps x = new TownLamps();
        fill(x, 0, 0, 1, 2, 3, 4, 5);
        fill(x, 1, 0, 10, 20, 30);
        fill(x, 2, 1, 7, NONE, 9);
        Due.is("copy", x.copy(0, 1, 1, 0, 2), 2);
        Due.same("to", row(x, 1), "2 3 30");
        Due.same("from", row(x, 0), "1 2 3 4 5");
        Due.is("upwards", x.copy(0, 0, 0, 1, 4), 4);
        Due.same("as they were", row(x, 0), "1 1 2 3 4");
        Due.is("downwards", x.copy(0, 2, 0, 0, 3), 3);
        Due.same("as they were, too", row(x, 0), "2 3 4 3 4");
        Due.is("no number", x.copy(2, 1, 2, 2, 1), 1);
        Due.same("no number comes, too", row(x, 2), "7 x x");
        Due.is("none", x.copy(0, 5, 1, 3, 0), 0);
        Due.is("none, at 0", x.copy(0, 0, 1, 0, 0), 0);
        int[][] index = {{0, 6, 1, 0, 0}, {0, 0, 1, 4, 0}, {0, -1, 1, 0, 0}, {0, 0, 1, -1, 0}, {0, 0, 1, 0, -1}, {0, 0, 1, 0, 4}, {1, 0, 0, 0, 4}, {0, 4, 1, 0, 2},
            {0, 0, 1, 2, 2}, {0, 5, 1, 0, 1}, {0, 0, 1, 3, 1}, {0, MAX, 1, 0, 1}, {0, 1, 1, 0, MAX}, {0, 1, 1, MAX, 1}, {0, 1, 1, 1, MIN}, {0, MIN, 1, 1, 1}, {0, MAX, 1, MAX, MAX}};
        for (int[] b : index) {
            Due.is("copy" + Arrays.toString(b), x.copy(b[0], b[1], b[2], b[3], b[4]), INDEX);
        }
        Due.is("of another sort", x.copy(0, 0, 2, 0, 1), KIND);
        Due.is("KIND is ahead of INDEX", x.copy(2, -1, 0, 0, 1), KIND);
        Due.is("to a missing one", x.copy(0, 0, 3, 0, 1), NOTHING);
        Due.is("from a missing one", x.copy(3, 0, 2, 0, 1), NOTHING);
        Due.is("NOTHING is ahead of INDEX", x.copy(3, 0, 3, 9, -1), NOTHING);
        int[][] bad = {{-1, 0, 0, 0, 0}, {4, 0, 0, 0, 0}, {0, 0, -1, 0, 0}, {0, 0, 4, 0, 0}, {3, 0, 4, 0, 0}, {4, 0, 3, 0, 0}, {MAX, 0, 0, 0, 0}, {0, 0, MIN, 0, 0}};
        for (int[] b : bad) {
            Due.is("copy" + Arrays.toString(b), x.copy(b[0], b[1], b[2], b[3], b[4]), BAD);
        }
        Due.same("after refusals", row(x, 0) + "; " + row(x, 1) + "; " + row(x, 2) + "; " + row(x, 3), "2 3 4 3 4; 2 3 30; 7 x x; -");
    }

    private static void promise37() {
        TownLamps x = Towns.withAll();
        fill(x, 1, 1, 5, NONE);
        Due.is("lay a lamp", x.lay(0, 1, 4), 0);
        Due.is("lay a sheet", x.lay(0, 2, 1), 1);
        Due.is("lay a number", x.lay(0, 3, MIN), 2);
        Due.is("lay nothing", x.lay(0, 0, MIN), 3);
        Due.is("lay nothing again", x.lay(0, 0, MAX), 0);
        for (int slot = 0; slot < 5; slot++) {
            Due.is("lay in " + slot, x.lay(slot, 3, slot), 0);
        }
        for (int slot = 0; slot < 5; slot++) {
            Due.is("each its own", x.rest(slot, 100), slot);
        }
        int[][] bad = {{-1, 0, 0}, {5, 0, 0}, {MAX, 0, 0}, {MIN, 0, 0}, {0, -1, 0}, {0, 4, 0}, {0, MAX, 0}, {0, MIN, 0}, {0, 1, -1}, {0, 1, 7}, {0, 1, MAX}, {0, 1, MIN},
            {0, 2, -1}, {0, 2, 4}, {0, 2, MAX}, {0, 2, MIN}};
        for (int[] b : bad) {
            Due.is("lay" + Arrays.toString(b), x.lay(b[0], b[1], b[2]), BAD);
        }
        Due.is("a missing sheet", x.lay(1, 2, 0), NOTHING);
        Due.is("after a refusal", x.rest(1, 100), 1);
        // a row of its own
        x.lay(2, 2, 1);
        x.mark(1, 0, 6);
        Due.is("as it was then", x.item(2, 0), 5);
        x.sheet(1, -1, 0);
        Due.is("as it was then, for good", x.item(2, 0), 5);
        Due.is("its places, too", x.item(2, 2), INDEX);
    }

    private static void promise38() {
        TownLamps x = Towns.withAll();
        int[] wear = {1, 1, 1, 1, 2, 2};
        String[] of = {"0", "01", "02", "013", "024", "05"};
        for (int l = 0; l < 6; l++) {
            x.lay(l % 5, 1, l);
            for (int kind = 0; kind < 6; kind++) {
                Due.is("ask lamp " + l + " as " + kind, x.ask(l % 5, kind), of[l].indexOf('0' + kind) >= 0 ? wear[l] : KIND);
            }
        }
        x.lay(0, 1, 4);
        x.keep();
        x.change(4, 0);
        Due.is("as it is then, for good", x.ask(0, 4), 2);
        x.back();
        x.hours(60);
        Due.is("for good", x.ask(0, 2), 2);
        x.lay(1, 3, 0);
        x.sheet(0, 0, 1);
        x.lay(2, 2, 0);
        x.lay(3, 0, 0);
        Due.is("a number", x.ask(1, 0), KIND);
        Due.is("a sheet", x.ask(2, 0), KIND);
        Due.is("nothing", x.ask(3, 0), NOTHING);
        int[][] bad = {{-1, 0}, {5, 0}, {MAX, 0}, {MIN, 0}, {0, -1}, {0, 6}, {3, 6}, {1, 6}, {0, MAX}, {0, MIN}};
        for (int[] b : bad) {
            Due.is("ask" + Arrays.toString(b), x.ask(b[0], b[1]), BAD);
        }
    }

    private static void promise39() {
        TownLamps x = Towns.withAll();
        fill(x, 0, 1, 5, NONE, -7);
        fill(x, 1, 0, -32768);
        x.lay(0, 2, 0);
        x.lay(1, 2, 1);
        x.lay(2, 1, 0);
        x.lay(3, 3, 0);
        Due.is("first", x.item(0, 0), 5);
        Due.is("NO NUMBER", x.item(0, 1), KIND);
        Due.is("last", x.item(0, 2), -7);
        Due.is("of shorts", x.item(1, 0), -32768);
        for (int place : new int[] {-1, 3, 24, MAX, MIN}) {
            Due.is("item(0, " + place + ")", x.item(0, place), INDEX);
        }
        Due.is("a lamp", x.item(2, -1), KIND);
        Due.is("a number", x.item(3, -1), KIND);
        Due.is("nothing", x.item(4, -1), NOTHING);
        for (int slot : new int[] {-1, 5, MAX, MIN}) {
            Due.is("item(" + slot + ")", x.item(slot, 0), BAD);
        }
    }

    private static void promise40() {
        TownLamps x = Towns.withAll();
        x.sheet(0, 0, 1);
        x.lay(0, 3, 17);
        x.lay(1, 3, MIN);
        x.lay(2, 1, 0);
        x.lay(3, 2, 0);
        Due.is("17 by 5", x.rest(0, 5), 2);
        Due.is("17 by -5", x.rest(0, -5), 2);
        Due.is("MIN by 10", x.rest(1, 10), -8);
        Due.is("MIN by -1", x.rest(1, -1), 0);
        Due.is("17 by MIN", x.rest(0, MIN), 17);
        Due.is("by 0", x.rest(0, 0), NO);
        Due.is("a lamp", x.rest(2, 0), KIND);
        Due.is("a sheet", x.rest(3, 1), KIND);
        Due.is("nothing", x.rest(4, 0), NOTHING);
        for (int slot : new int[] {-1, 5, MAX, MIN}) {
            Due.is("rest(" + slot + ")", x.rest(slot, 0), BAD);
        }
    }
}
