/** Promises 1 to 13: cabinets, joints, lamps. */
public final class CabinetsTest {
    private static final int BAD = TownLamps.BAD;
    private static final int FULL = TownLamps.FULL;
    private static final int MIN = Integer.MIN_VALUE;
    private static final int MAX = Integer.MAX_VALUE;

    public static void main(String[] args) {
        promise1();
        promise2();
        promise3();
        nights();
        promise4();
        promise5();
        promise6();
        promise7();
        promise8();
        kinds();
        promise9();
        promise10();
        promise11();
        promise12And13();
        Due.end();
    }

    private static void promise1() {
        TownLamps x = new TownLamps();
        int[] due = {0, 0, 0, 0, 0, 0, 0, 0, 0, 18, 0, 0, 0};
        for (int what = 0; what < due.length; what++) {
            Due.is("new count " + what, x.count(what), due[what]);
        }
        Due.is("new feast", x.feast(7), 7);
        Due.is("new cabinetTold", x.cabinetTold(0, 0), BAD);
        Due.is("new back", x.back(), TownLamps.NO);
        Due.is("new fits", x.mark(0, 0, 0), TownLamps.NOTHING);
        Due.is("new item", x.item(4, 0), TownLamps.NOTHING);
        Due.is("new tooDark", x.tooDark(), 0);
        Due.is("new blames", x.blames(), 0);
        Due.is("new guess(0)", x.guess(0), 0);
        Due.is("new guess(1)", x.guess(1), TownLamps.NONE);
        for (int key = 0; key < 4; key++) {
            Due.is("new why", x.why(key), TownLamps.NONE);
        }
    }

    private static void promise2() {
        TownLamps x = new TownLamps();
        int[][] bad = {{-1, 0}, {31, 0}, {3100, 0}, {99, 0}, {3031, 0}, {MIN, 0}, {MAX, 0}, {0, -1}, {0, 24}, {0, 2400}, {0, 2324}, {0, MAX}, {0, MIN}, {-100, 1806}};
        for (int[] b : bad) {
            Due.is("cabinet(" + b[0] + ", " + b[1] + ")", x.cabinet(b[0], b[1]), BAD);
        }
        Due.is("refused cabinets", x.count(0), 0);
        Due.is("cabinet(0, 0)", x.cabinet(0, 0), 0);
        Due.is("cabinet(3030, 2323)", x.cabinet(3030, 2323), 1);
        Due.is("cabinet(30, 23)", x.cabinet(30, 23), 2);
        Due.is("fourth cabinet", x.cabinet(0, 0), FULL);
        Due.is("BAD is ahead of FULL", x.cabinet(31, 0), BAD);
        Due.is("cabinets", x.count(0), 3);
    }

    private static void promise3() {
        TownLamps x = Towns.withAll();
        int[] due = {0, 18, 6, 0, 1, 0, 50 + 41 + 16 + 60 + 30 + 10, 207, 0};
        for (int what = 0; what < due.length; what++) {
            Due.is("cabinetTold(0, " + what + ")", x.cabinetTold(0, what), due[what]);
        }
        int[] due1 = {3030, 12, 12, 0, 0, 0, 12, 12, 0};
        for (int what = 0; what < due1.length; what++) {
            Due.is("cabinetTold(1, " + what + ")", x.cabinetTold(1, what), due1[what]);
        }
        x.shift(0, 2);
        x.breaks(2, 0);
        x.breaks(1, 2);
        Due.is("SHIFT", x.cabinetTold(0, 3), 2);
        Due.is("NIGHT with SHIFT 2", x.cabinetTold(0, 4), 0);
        Due.is("DUE by day", x.cabinetTold(0, 6), 16 + 30);
        x.shift(0, 0);
        Due.is("DUE with faults", x.cabinetTold(0, 6), 207);
        Due.is("DRAWN with faults", x.cabinetTold(0, 7), 41 + 16);
        x.hours(1);
        Due.is("PAID", x.cabinetTold(0, 8), 570);
        Due.is("PAID of the other", x.cabinetTold(1, 8), 120);
        x.breaks(0, 0);
        Due.is("BROKEN", x.cabinetTold(0, 5), 1);
        Due.is("DRAWN of a BROKEN one", x.cabinetTold(0, 7), 0);
        Due.is("DRAWN of the other", x.cabinetTold(1, 7), 12);
        int[][] bad = {{-1, 0}, {2, 0}, {MIN, 0}, {MAX, 0}, {0, -1}, {0, 9}, {0, MAX}, {0, MIN}};
        for (int[] b : bad) {
            Due.is("cabinetTold(" + b[0] + ", " + b[1] + ")", x.cabinetTold(b[0], b[1]), BAD);
        }
    }

    private static void nights() {
        int[] clocks = {1806, 618, 500, 5, 2300, 1212, 1};
        for (int clock : clocks) {
            for (int shift = -3; shift <= 3; shift++) {
                TownLamps x = new TownLamps();
                x.cabinet(0, clock);
                x.shift(0, shift);
                for (int i = 0; i < 24; i++) {
                    int hour = (18 + i) % 24;
                    int due = isNight(clock / 100, clock % 100, (hour - shift + 24) % 24) ? 1 : 0;
                    Due.is("NIGHT of clock " + clock + " shift " + shift + " hour " + hour, x.cabinetTold(0, 4), due);
                    x.hours(1);
                }
            }
        }
    }

    /** Goes from ON hour by hour till OFF: t is met on the way. */
    private static boolean isNight(int on, int off, int t) {
        for (int h = on; h != off; h = (h + 1) % 24) {
            if (h == t) {
                return true;
            }
        }
        return false;
    }

    private static void promise4() {
        TownLamps x = Towns.withAll();
        Due.is("shift(0, 3)", x.shift(0, 3), 0);
        Due.is("shift(0, -3)", x.shift(0, -3), 3);
        Due.is("shift of the other", x.shift(1, 1), 0);
        int[][] bad = {{0, 4}, {0, -4}, {-1, 0}, {2, 0}, {0, MAX}, {0, MIN}};
        for (int[] b : bad) {
            Due.is("shift(" + b[0] + ", " + b[1] + ")", x.shift(b[0], b[1]), BAD);
        }
        Due.is("after refusals", x.cabinetTold(0, 3), -3);
    }

    private static void promise5() {
        TownLamps x = new TownLamps();
        Due.is("joint without a cabinet", x.joint(100, 0), BAD);
        x.cabinet(0, 0);
        int[][] bad = {{0, 0}, {-1, 0}, {99, 0}, {101, 0}, {12, 0}, {MAX, 0}, {MIN, 0}, {100, -1}, {100, 31}, {100, 3100}, {100, MAX}, {100, MIN}};
        for (int[] b : bad) {
            Due.is("joint(" + b[0] + ", " + b[1] + ")", x.joint(b[0], b[1]), BAD);
        }
        Due.is("first joint", x.joint(100, 3030), 0);
        Due.is("a joint can not feed itself", x.joint(1, 0), BAD);
        for (int i = 1; i < 12; i++) {
            Due.is("joint " + i, x.joint(i - 1, i), i);
        }
        Due.is("joint 12", x.joint(11, 0), FULL);
        Due.is("joint 12 of a cabinet", x.joint(100, 0), FULL);
        Due.is("BAD is ahead of FULL", x.joint(12, 0), BAD);
        Due.is("BAD place is ahead of FULL", x.joint(11, 31), BAD);
        Due.is("joints", x.count(1), 12);
    }

    private static void promise6() {
        TownLamps x = Towns.withAll();
        int[][] due = {{100, 100, 0, 0, 1}, {0, 200, 0, 0, 2}, {1, 300, 0, 0, 3}, {101, 3000, 1, 0, 1}};
        for (int j = 0; j < due.length; j++) {
            for (int what = 0; what < 5; what++) {
                Due.is("jointTold(" + j + ", " + what + ")", x.jointTold(j, what), due[j][what]);
            }
        }
        x.breaks(1, 2);
        Due.is("BROKEN", x.jointTold(2, 3), 1);
        x.breaks(0, 0);
        Due.is("not BROKEN by its cabinet", x.jointTold(0, 3), 0);
        x.joint(3, 1);
        Due.is("cabinet by a joint", x.jointTold(4, 2), 1);
        Due.is("no lamps", x.jointTold(4, 4), 0);
        int[][] bad = {{-1, 0}, {5, 0}, {12, 0}, {MAX, 0}, {MIN, 0}, {0, -1}, {0, 5}, {0, MAX}, {0, MIN}};
        for (int[] b : bad) {
            Due.is("jointTold(" + b[0] + ", " + b[1] + ")", x.jointTold(b[0], b[1]), BAD);
        }
    }

    private static void promise7() {
        TownLamps x = new TownLamps();
        x.cabinet(0, 0);
        Due.is("lamp without a joint", x.lamp(0, 0, 10), BAD);
        x.joint(100, 0);
        int[][] bad = {{-1, 0, 10}, {6, 0, 10}, {MAX, 0, 10}, {MIN, 0, 10}, {0, -1, 10}, {0, 1, 10}, {0, 100, 10}, {0, 0, 9}, {0, 0, 0}, {0, 0, 3},
            {0, 0, -10}, {0, 0, 14}, {0, 0, 19}, {0, 0, 1000}, {0, 0, 994}, {0, 0, MAX}, {0, 0, MIN}};
        for (int[] b : bad) {
            Due.is("lamp(" + b[0] + ", " + b[1] + ", " + b[2] + ")", x.lamp(b[0], b[1], b[2]), BAD);
        }
        for (int i = 0; i < 16; i++) {
            Due.is("lamp " + i, x.lamp(i % 6, 0, i % 2 == 0 ? 10 : 993), i);
        }
        Due.is("lamp 16", x.lamp(0, 0, 10), FULL);
        Due.is("BAD is ahead of FULL", x.lamp(0, 0, 14), BAD);
        Due.is("lamps", x.count(2), 16);
        Due.is("DRAW least", x.told(0, 2), 1);
        Due.is("DRAW most", x.told(1, 2), 99);
        Due.is("CLASS most", x.told(1, 3), 3);
    }

    private static void promise8() {
        TownLamps x = Towns.withAll();
        int[][] due = {
            {0, 0, 50, 0, 0, 0, 1, 1, 1, 50, 1, 4000, 0},
            {1, 1, 41, 1, 0, 0, 1, 1, 1, 41, 1, 4000, 0},
            {2, 1, 33, 2, 0, 0, 1, 1, 1, 16, 1, 4000, 0},
            {3, 2, 90, 3, 0, 0, 1, 1, 1, 60, 1, 4000, 0},
            {4, 2, 21, 0, 0, 0, 1, 1, 1, 30, 2, 4000, 0},
            {5, 2, 10, 1, 0, 0, 1, 1, 1, 10, 2, 4000, 0},
            {2, 3, 25, 2, 0, 0, 1, 1, 1, 12, 1, 4000, 0}};
        for (int l = 0; l < due.length; l++) {
            for (int what = 0; what <= 12; what++) {
                Due.is("told(" + l + ", " + what + ")", x.told(l, what), due[l][what]);
            }
        }
        x.hours(2);
        Due.is("BURNT", x.told(0, 4), 2);
        Due.is("BURNT of a FEAST", x.told(4, 4), 4);
        x.breaks(1, 0);
        Due.is("FED by a BROKEN joint", x.told(5, 6), 0);
        Due.is("SHOULD all the same", x.told(5, 7), 1);
        Due.is("BURNS not", x.told(5, 8), 0);
        Due.is("DRAWS all the same", x.told(5, 9), 10);
        Due.is("FED by another cabinet", x.told(6, 6), 1);
        x.mend(1, 0);
        x.breaks(2, 5);
        Due.is("OUT", x.told(5, 5), 1);
        Due.is("FED when OUT", x.told(5, 6), 0);
        x.breaks(0, 1);
        Due.is("FED by a BROKEN cabinet", x.told(6, 6), 0);
        Due.is("OUT by a BROKEN cabinet", x.told(6, 5), 0);
        x.dark(3, true);
        Due.is("told DARK", x.told(3, 12), 1);
        int[][] bad = {{-1, 0}, {7, 0}, {16, 0}, {MAX, 0}, {MIN, 0}, {0, -1}, {0, 13}, {0, MAX}, {0, MIN}};
        for (int[] b : bad) {
            Due.is("told(" + b[0] + ", " + b[1] + ")", x.told(b[0], b[1]), BAD);
        }
    }

    /** What the kinds draw in hours 4 and 5, by day, on no feast, and when they have burnt. */
    private static void kinds() {
        TownLamps x = Towns.withAll();
        x.hours(10);
        Due.is("hour", x.count(9), 4);
        int[] at4 = {50, 20, 16, 30, 30, 10, 12};
        for (int l = 0; l < at4.length; l++) {
            Due.is("DRAWS at 4 of " + l, x.told(l, 9), at4[l]);
        }
        Due.is("SENSOR at 4: 45 less 15", x.told(3, 9), 30);
        Due.is("FEAST on day 1", x.told(4, 7), 0);
        Due.is("FEAST burns on day 1", x.told(4, 8), 0);
        x.hours(1);
        Due.is("DIMMED at 5", x.told(1, 9), 41);
        x.hours(1);
        int[] byDay = {0, 0, 1, 0, 0, 0, 1};
        for (int l = 0; l < byDay.length; l++) {
            Due.is("SHOULD by day of " + l, x.told(l, 7), byDay[l]);
        }
        Due.is("BURNT of TUBE", x.told(5, 4), 24);
        TownLamps y = new TownLamps();
        y.cabinet(0, 18);
        y.joint(100, 0);
        y.lamp(5, 0, 500);
        // two to burn an hour: 18 hours a day
        for (int i = 0; i < 27; i++) {
            y.hours(24);
        }
        Due.is("hour", y.count(9), 18);
        Due.is("BURNT", y.told(0, 4), 972);
        y.hours(6 + 13);
        Due.is("BURNT before", y.told(0, 4), 998);
        Due.is("DRAWS before", y.told(0, 9), 50);
        y.hours(1);
        Due.is("BURNT by 1000", y.told(0, 4), 1000);
        Due.is("DRAWS by 1000", y.told(0, 9), 51);
        y.hours(11);
        y.lamp(1, 0, 990);
        Due.is("hour", y.count(9), 1);
        Due.is("DIMMED 99 at 1", y.told(1, 9), 49);
        Due.is("SENSOR: the third is cut", sensorDraws(20), 14);
        Due.is("SENSOR of 1", sensorDraws(1), 1);
        Due.is("SENSOR of 3", sensorDraws(3), 2);
    }

    private static int sensorDraws(int draw) {
        TownLamps x = Towns.withJoint();
        x.lamp(3, 0, draw * 10);
        return x.told(0, 9);
    }

    private static void promise9() {
        TownLamps x = Towns.withAll();
        x.hours(1);
        int no = TownLamps.KIND;
        int[][] due = {
            {1, no, no, no, no, no},
            {1, 1, no, no, no, no},
            {1, no, 1, no, no, no},
            {1, 1, no, 1, no, no},
            {2, no, 2, no, 2, no},
            {2, no, no, no, no, 2}};
        for (int l = 0; l < 6; l++) {
            for (int kind = 0; kind < 6; kind++) {
                Due.is("as(" + l + ", " + kind + ")", x.as(l, kind), due[l][kind]);
            }
        }
        int[][] bad = {{-1, 0}, {7, 0}, {MAX, 0}, {MIN, 0}, {0, -1}, {0, 6}, {0, MAX}, {0, MIN}};
        for (int[] b : bad) {
            Due.is("as(" + b[0] + ", " + b[1] + ")", x.as(b[0], b[1]), BAD);
        }
    }

    private static void promise10() {
        TownLamps x = Towns.withAll();
        x.hours(3);
        x.breaks(2, 1);
        x.dark(1, true);
        x.choose(1);
        Due.is("change(1, 5)", x.change(1, 5), 1);
        int[] due = {5, 1, 41, 1, 0, 0, 1, 1, 1, 41, 2, 4000, 1};
        for (int what = 0; what <= 12; what++) {
            Due.is("changed told " + what, x.told(1, what), due[what]);
        }
        Due.is("still chosen", x.choose(1), TownLamps.NO);
        Due.is("the same kind", x.change(1, 5), 5);
        Due.is("others as they were", x.told(0, 4), 3);
        int[][] bad = {{-1, 0}, {7, 0}, {MAX, 0}, {MIN, 0}, {0, -1}, {0, 6}, {0, MAX}, {0, MIN}};
        for (int[] b : bad) {
            Due.is("change(" + b[0] + ", " + b[1] + ")", x.change(b[0], b[1]), BAD);
        }
        Due.is("after refusals", x.told(0, 4), 3);
    }

    private static void promise11() {
        TownLamps x = Towns.withAll();
        Due.is("feast(99)", x.feast(99), 7);
        Due.is("feast(1)", x.feast(1), 99);
        for (int v : new int[] {0, -1, 100, MAX, MIN}) {
            Due.is("feast(" + v + ")", x.feast(v), BAD);
        }
        Due.is("after refusals", x.feast(3), 1);
        for (int day = 0; day < 8; day++) {
            Due.is("FEAST on day " + day, x.told(4, 7), day % 3 == 0 ? 1 : 0);
            x.hours(24);
        }
    }

    private static void promise12And13() {
        TownLamps x = Towns.withAll();
        x.hours(1);
        for (int what = 0; what <= 2; what++) {
            Due.is("mend what is whole", x.mend(what, 1), 0);
            Due.is("breaks anew", x.breaks(what, 1), 1);
            Due.is("breaks again", x.breaks(what, 1), 0);
        }
        Due.is("BROKEN cabinet", x.cabinetTold(1, 5), 1);
        Due.is("other cabinet", x.cabinetTold(0, 5), 0);
        Due.is("BROKEN joint", x.jointTold(1, 3), 1);
        Due.is("other joint", x.jointTold(0, 3), 0);
        Due.is("OUT", x.told(1, 5), 1);
        Due.is("other lamp", x.told(0, 5), 0);
        for (int what = 0; what <= 2; what++) {
            Due.is("mend", x.mend(what, 1), 1);
            Due.is("mend again", x.mend(what, 1), 0);
        }
        Due.is("mended cabinet", x.cabinetTold(1, 5), 0);
        Due.is("mended joint", x.jointTold(1, 3), 0);
        Due.is("mended lamp", x.told(1, 5), 0);
        Due.is("BURNT stays", x.told(1, 4), 1);
        String before = Towns.all(x);
        int[][] bad = {{-1, 0}, {3, 0}, {MAX, 0}, {MIN, 0}, {0, -1}, {0, 2}, {1, -1}, {1, 4}, {2, -1}, {2, 7}, {0, MAX}, {1, MAX}, {2, MAX}, {2, MIN}};
        for (int[] b : bad) {
            Due.is("breaks(" + b[0] + ", " + b[1] + ")", x.breaks(b[0], b[1]), BAD);
            Due.is("mend(" + b[0] + ", " + b[1] + ")", x.mend(b[0], b[1]), BAD);
        }
        Due.same("after refusals", Towns.all(x), before);
    }
}
