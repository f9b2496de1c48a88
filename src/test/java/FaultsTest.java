import java.util.Arrays;

/** Promises 23 to 32: faults. */
public final class FaultsTest {
    private static final int BAD = TownLamps.BAD;
    private static final int NO = TownLamps.NO;
    private static final int FULL = TownLamps.FULL;
    private static final int NONE = TownLamps.NONE;
    private static final int MIN = Integer.MIN_VALUE;
    private static final int MAX = Integer.MAX_VALUE;

    public static void main(String[] args) {
        promise23();
        promise24();
        promise24OnlyThoseThatShould();
        promise25();
        promise26();
        promise27();
        promise28();
        promise29();
        promise30();
        promise31();
        promise31FirstByTheOrderTold();
        promise32();
        Due.end();
    }

    private static void promise23() {
        TownLamps x = Towns.withAll();
        Due.is("dark", x.dark(2, true), 1);
        Due.is("dark again", x.dark(2, true), 0);
        Due.is("told", x.told(2, 12), 1);
        Due.is("others", x.count(8), 1);
        Due.is("not dark", x.dark(2, false), 1);
        Due.is("not dark again", x.dark(2, false), 0);
        Due.is("never dark", x.dark(3, false), 0);
        for (int l : new int[] {-1, 7, 16, MAX, MIN}) {
            Due.is("dark(" + l + ")", x.dark(l, true), BAD);
        }
        Due.is("none then", x.count(8), 0);
    }

    /** Joints 0, 1, 2 feed on one another; lamp 0 at 0; 1, 2 at 1; 3, 4, 5 at 2; lamp 6 alone at joint 3 of cabinet 1. */
    private static void promise24() {
        TownLamps x = Towns.withAll();
        blamed(x, "", "", "");
        x.dark(0, true);
        blamed(x, "", "", "0");
        x.dark(1, true);
        blamed(x, "", "", "01");
        x.dark(3, true);
        x.dark(4, true);
        blamed(x, "", "", "0134");
        x.dark(5, true);
        blamed(x, "", "2", "01");
        x.dark(2, true);
        blamed(x, "0", "", "");
        x.dark(0, false);
        blamed(x, "", "1", "");
        // one lamp alone is blamed itself, and nothing ahead of it
        x.dark(6, true);
        blamed(x, "", "1", "6");
        x.dark(4, false);
        blamed(x, "", "", "12356");
        int[][] bad = {{-1, 0}, {3, 0}, {MAX, 0}, {MIN, 0}, {0, -1}, {0, 2}, {1, -1}, {1, 4}, {2, -1}, {2, 7}, {0, MAX}, {1, MIN}, {2, MAX}};
        for (int[] b : bad) {
            Due.is("blame" + Arrays.toString(b), x.blame(b[0], b[1]), BAD);
        }
        // faults that are real play no part
        x.breaks(0, 0);
        x.breaks(1, 3);
        x.breaks(2, 0);
        blamed(x, "", "", "12356");
    }

    private static void promise24OnlyThoseThatShould() {
        TownLamps x = Towns.withAll();
        x.hours(12);
        // by day on day 1 only the signs 2 and 6 should
        x.dark(0, true);
        x.dark(2, true);
        blamed(x, "", "", "2");
        x.feast(1);
        blamed(x, "", "", "2");
        x.dark(4, true);
        blamed(x, "0", "", "");
        // a branch: joint 4 beside 1, behind 0
        TownLamps y = Towns.withJoint();
        y.joint(0, 0);
        y.joint(0, 0);
        y.joint(100, 0);
        y.lamp(0, 1, 100);
        y.lamp(0, 2, 100);
        y.lamp(0, 3, 100);
        y.dark(0, true);
        blamed(y, "", "", "0");
        y.dark(1, true);
        blamed(y, "", "0", "");
        y.dark(2, true);
        blamed(y, "0", "", "");
        y.change(2, 4);
        y.hours(24);
        // lamp 2 is a FEAST lamp that should not
        blamed(y, "0", "", "");
        y.lamp(2, 3, 100);
        blamed(y, "", "0", "");
    }

    private static void blamed(TownLamps x, String cabinets, String joints, String lamps) {
        String[] due = {cabinets, joints, lamps};
        for (int what = 0; what < 3; what++) {
            StringBuilder got = new StringBuilder();
            for (int k = 0; k < x.count(what); k++) {
                if (x.blame(what, k) != 0) {
                    got.append(k);
                }
            }
            Due.same("blamed " + what, got.toString(), due[what]);
        }
        Due.is("blames", x.blames(), cabinets.length() + joints.length() + lamps.length());
    }

    private static void promise25() {
        TownLamps x = new TownLamps();
        Due.is("blames of none", x.blames(), 0);
        x.cabinet(0, 1806);
        Due.is("blames of no lamps", x.blames(), 0);
        x.joint(100, 0);
        x.lamp(0, 0, 10);
        x.lamp(0, 0, 10);
        Due.is("blames of none dark", x.blames(), 0);
        x.dark(0, true);
        Due.is("blames of one", x.blames(), 1);
        x.dark(1, true);
        Due.is("blames of the cabinet", x.blames(), 1);
        x.lamp(0, 0, 10);
        Due.is("blames of two", x.blames(), 2);
    }

    private static void promise26() {
        TownLamps x = Towns.withJoint();
        Due.is("choose none", x.choose(0), BAD);
        for (int i = 0; i < 10; i++) {
            x.lamp(0, 0, 100);
        }
        for (int i = 0; i < 8; i++) {
            Due.is("choose " + i, x.choose(9 - i), i + 1);
            Due.is("choose again", x.choose(9 - i), NO);
        }
        Due.is("choose the ninth", x.choose(0), FULL);
        Due.is("NO is ahead of FULL", x.choose(9), NO);
        for (int l : new int[] {-1, 10, 16, MAX, MIN}) {
            Due.is("choose(" + l + ")", x.choose(l), BAD);
        }
        Due.is("chosen", x.count(6), 8);
    }

    private static void promise27() {
        TownLamps x = Towns.withAll();
        Due.is("clear none", x.clear(), 0);
        x.choose(3);
        x.choose(0);
        Due.is("clear two", x.clear(), 2);
        Due.is("chosen", x.count(6), 0);
        Due.is("clear again", x.clear(), 0);
        Due.is("guess then", x.guess(50), NONE);
        Due.is("choose anew", x.choose(3), 1);
    }

    private static void promise28() {
        TownLamps x = Towns.withJoint();
        int[] draws = {10, 20, 30, 40, 50, 60, 70, 99};
        for (int d : draws) {
            x.lamp(0, 0, d * 10);
        }
        int[] order = {3, 0, 1, 2, 6, 5, 4, 7};
        for (int l : order) {
            x.choose(l);
        }
        // bits: 40 is 1, 10 is 2, 20 is 4, 30 is 8, 70 is 16, 60 is 32, 50 is 64, 99 is 128
        Due.is("guess(0)", x.guess(0), 0);
        Due.is("guess(40)", x.guess(40), 1);
        Due.is("guess(70)", x.guess(70), 16);
        Due.is("guess(80): 10 and 70", x.guess(80), 2 + 16);
        Due.is("guess(90): 40 and 50, or 20 and 70, or 30 and 60", x.guess(90), 4 + 16);
        Due.is("guess(99)", x.guess(99), 128);
        Due.is("guess(379): all", x.guess(379), 255);
        Due.is("guess(380)", x.guess(380), NONE);
        Due.is("guess(5)", x.guess(5), NONE);
        Due.is("guess(9999)", x.guess(9999), NONE);
        for (int v : new int[] {-1, 10000, MAX, MIN}) {
            Due.is("guess(" + v + ")", x.guess(v), BAD);
        }
        x.breaks(2, 3);
        x.breaks(0, 0);
        Due.is("FED or not", x.guess(40), 1);
        x.change(3, 2);
        Due.is("by what it DRAWS: 20 and 20, or 10 and 30", x.guess(40), 1 + 4);
        Due.is("a sign of 40 draws 20", x.guess(20), 1);
        x.hours(12);
        Due.is("by day the sign alone", x.guess(20), 1);
        Due.is("by day no 30", x.guess(30), NONE);
        Due.is("by day none for 0", x.guess(0), 0);
        // a lamp that draws 0 is never of the fewest
        TownLamps y = Towns.withJoint();
        Towns.text(y, "dim 0");
        y.lamp(1, 0, 100);
        y.lamp(0, 0, 100);
        y.choose(0);
        y.choose(1);
        Due.is("without the 0", y.guess(10), 2);
        Due.is("none for 0", y.guess(0), 0);
    }

    private static void promise29() {
        TownLamps x = Towns.withJoint();
        for (int i = 0; i < 8; i++) {
            x.joint(100, i);
        }
        for (int i = 0; i < 6; i++) {
            Due.is("stop " + i, x.stop(8 - i), i + 1);
            Due.is("stop again", x.stop(8 - i), NO);
        }
        Due.is("stop the seventh", x.stop(0), FULL);
        Due.is("NO is ahead of FULL", x.stop(8), NO);
        for (int j : new int[] {-1, 9, 12, 100, MAX, MIN}) {
            Due.is("stop(" + j + ")", x.stop(j), BAD);
        }
        Due.is("stops", x.count(7), 6);
    }

    private static void promise30() {
        TownLamps x = Towns.withAll();
        Due.is("home none", x.home(), 0);
        x.stop(2);
        x.stop(1);
        Due.is("home two", x.home(), 2);
        Due.is("stops", x.count(7), 0);
        Due.is("home again", x.home(), 0);
        Due.is("round then", x.round(0, -1), 0);
        Due.is("stop anew", x.stop(2), 1);
    }

    private static void promise31() {
        TownLamps x = new TownLamps();
        Due.is("round without a cabinet", x.round(0, -1), BAD);
        x.cabinet(0, 0);
        x.cabinet(1500, 0);
        int[] places = {1000, 1010, 10, 510, 2010, 3030};
        for (int p : places) {
            x.joint(100, p);
        }
        Due.is("round by none", x.round(0, -1), 0);
        Due.is("round by none, first", x.round(0, 0), BAD);
        x.stop(2);
        x.stop(0);
        Due.is("round by two", x.round(0, -1), 40);
        x.stop(1);
        // 0,0 - 0,10 - 10,10 - 10,0 - 0,0
        Due.is("round by three", x.round(0, -1), 40);
        Due.is("first", x.round(0, 0), 2);
        Due.is("second", x.round(0, 1), 1);
        Due.is("third", x.round(0, 2), 0);
        Due.is("no fourth", x.round(0, 3), BAD);
        // from 15,0: 25 to 0,10, then 20 to 10,0, 10 to 10,10, 15 home; or 25, 10, 10, 5
        Due.is("round from the other", x.round(1, -1), 50);
        x.stop(3);
        x.stop(4);
        x.stop(5);
        Due.is("round by six", x.round(0, -1), 120);
        int sum = 0;
        for (int what = 0; what < 6; what++) {
            sum |= 1 << x.round(0, what);
        }
        Due.is("each once", sum, 63);
        int[][] bad = {{-1, 0}, {2, 0}, {3, -1}, {MAX, 0}, {MIN, 0}, {0, -2}, {0, 6}, {0, MAX}, {0, MIN}};
        for (int[] b : bad) {
            Due.is("round" + Arrays.toString(b), x.round(b[0], b[1]), BAD);
        }
    }

    private static void promise31FirstByTheOrderTold() {
        TownLamps x = new TownLamps();
        x.cabinet(0, 0);
        for (int i = 1; i <= 6; i++) {
            x.joint(100, i);
        }
        // all on one line: each way that turns once is as long
        int[] told = {2, 5, 3, 0, 4, 1};
        for (int j : told) {
            x.stop(j);
        }
        Due.is("length", x.round(0, -1), 12);
        // up by 3 to 6, and what was left out on the way down again
        int[] due = {2, 5, 4, 3, 1, 0};
        for (int what = 0; what < 6; what++) {
            Due.is("gone to " + what, x.round(0, what), due[what]);
        }
        // all at one place: the order told
        TownLamps y = new TownLamps();
        y.cabinet(3030, 0);
        for (int i = 0; i < 6; i++) {
            y.joint(100, 0);
        }
        for (int j : told) {
            y.stop(j);
        }
        Due.is("there and back", y.round(0, -1), 120);
        for (int what = 0; what < 6; what++) {
            Due.is("as told " + what, y.round(0, what), told[what]);
        }
    }

    private static void promise32() {
        TownLamps x = Towns.withJoint();
        Due.is("no lamps", x.together(0, 1001, 0), NONE);
        x.lamp(0, 0, 100);
        x.lamp(3, 0, 200);
        x.lamp(1, 0, 300);
        Towns.text(x, "life w*10*5");
        // lives: 500, 1000, 1500; of all n is 3, of DIMMED 2, of SENSOR 1
        // a 10, b 100: T 1: 3000; T 2 (LIFE below 500): 1500; T 3: 130 * 100 / 3 = 4333; T 4: 3250; T 5: 230 .. 4600; T 20: 330 * 5 = 1650
        Due.is("T", x.together(0, 10100, 0), 2);
        Due.is("cost", x.together(0, 10100, 1), 1500);
        // a 10, b 10: T 1: 3000 .. T 20: 60 * 5 = 300
        Due.is("T late", x.together(0, 10010, 0), 20);
        Due.is("cost late", x.together(0, 10010, 1), 300);
        // of DIMMED, lives 1000 and 1500: T 4: 2000 / 4 = 500; T 20: 2 * 1010 * 100 / 20
        Due.is("T of DIMMED", x.together(1, 10999, 0), 4);
        Due.is("cost of DIMMED", x.together(1, 10999, 1), 500);
        Due.is("T of SENSOR", x.together(3, 10999, 0), 4);
        Due.is("cost of SENSOR", x.together(3, 10999, 1), 250);
        Due.is("none of SIGN", x.together(2, 10999, 0), NONE);
        Due.is("none of TUBE", x.together(5, 10999, 1), NONE);
        Due.is("for nothing", x.together(0, 0, 0), 1);
        Due.is("for nothing, cost", x.together(0, 0, 1), 0);
        // b alone: nothing till LIFE is below
        Due.is("b alone", x.together(0, 999, 0), 1);
        // a alone: the cut makes 100 / 17 as little as 100 / 20
        Due.is("a alone", x.together(3, 1000, 0), 17);
        Due.is("the most, at T 20", x.together(0, 999999, 1), (999 * 3 + 999 * 3) * 100 / 20);
        x.breaks(2, 0);
        x.breaks(0, 0);
        Due.is("OUT, too", x.together(0, 10100, 0), 2);
        Due.is("OUT, too: cost late", x.together(0, 10010, 1), 300);
        int[][] bad = {{-1, 0, 0}, {6, 0, 0}, {MAX, 0, 0}, {MIN, 0, 0}, {0, -1, 0}, {0, 1000000, 0}, {0, MAX, 0}, {0, MIN, 0}, {0, 0, -1}, {0, 0, 2}, {0, 0, MAX}, {2, 0, 2}};
        for (int[] b : bad) {
            Due.is("together" + Arrays.toString(b), x.together(b[0], b[1], b[2]), BAD);
        }
    }
}
