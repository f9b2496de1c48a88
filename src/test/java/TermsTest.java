/**
 * The boundary cases that the document's Terms name, in their order: what is held, cut, wrapped
 * around, at most and at first. Refusals have a test of their own.
 */
public final class TermsTest {
    private static final int FULL = TownLamps.FULL;
    private static final int NO = TownLamps.NO;
    private static final int NONE = TownLamps.NONE;
    private static final int INDEX = TownLamps.INDEX;
    private static final int KIND = TownLamps.KIND;

    public static void main(String[] args) {
        aNewObject();
        hourAndDayWrap();
        nightWrapsWithTheShift();
        fedByAllAhead();
        fedByTwelve();
        asManyAsThereMayBe();
        feastDays();
        dimIsHeld();
        dimWithoutAText();
        drawsAreCut();
        tubeDrawsByThousands();
        lifeIsHeld();
        lifeWithoutAText();
        tooDarkIsBelow();
        priceIsHeld();
        paidIsHeldExactly();
        burntIsHeld();
        anHourByItsBegin();
        words();
        numbers();
        openBracketsAndNots();
        theTextThatCounts();
        aShorterTextBehindALonger();
        worths();
        twoLampsOrMore();
        onlyThoseThatShouldAreBehind();
        guessOfThoseThatShould();
        guessOfEight();
        theRoundOfOneAndSix();
        togetherBelow250();
        togetherOfCuts();
        sheetsOf24();
        fitsAsHoursGoBy();
        imageKeepsAll();
        hoursToldOf30();
        the512thCall();
        Due.end();
    }

    // ---- 1

    /** A new object is as told, whatever was done to others. */
    private static void aNewObject() {
        States.FULL.make();
        TownLamps x = new TownLamps();
        int[] counts = {0, 0, 0, 0, 0, 0, 0, 0, 0, 18, 0, 0, 0};
        for (int what = 0; what < counts.length; what++) {
            Due.is("count(" + what + ") of a new object", x.count(what), counts[what]);
        }
        for (int sheet = 0; sheet < 4; sheet++) {
            Due.is("sheet " + sheet + " is MISSING", x.mark(sheet, 0, 0), TownLamps.NOTHING);
        }
        for (int slot = 0; slot < 5; slot++) {
            Due.is("slot " + slot + " holds nothing", x.lay(slot, 0, 0), 0);
        }
        for (int key = 0; key < 4; key++) {
            Due.is("no TEXT counts for " + key, x.why(key), NONE);
            Due.is("no LIGHT of " + key, x.light(key), 0);
        }
        Due.is("FEAST by 7", x.feast(7), 7);
        Due.is("no IMAGE", x.back(), NO);
        Due.is("no IMAGE for check", x.check(1), NO);
        Due.is("an empty TAPE", x.text(), -100);
        x.cabinet(0, 1806);
        x.joint(100, 0);
        x.lamp(0, 0, 10);
        Due.is("SHIFT", x.cabinetTold(0, 3), 0);
        Due.is("BROKEN cabinet", x.cabinetTold(0, 5), 0);
        Due.is("PAID", x.cabinetTold(0, 8), 0);
        Due.is("BROKEN joint", x.jointTold(0, 3), 0);
        Due.is("BURNT", x.told(0, 4), 0);
        Due.is("OUT", x.told(0, 5), 0);
        Due.is("told DARK", x.told(0, 12), 0);
    }

    private static void hourAndDayWrap() {
        TownLamps x = new TownLamps();
        Due.is("HOUR at first", x.count(9), 18);
        Due.is("DAY at first", x.count(10), 0);
        Due.is("the last HOUR of a DAY", x.hours(5), 23);
        Due.is("DAY still", x.count(10), 0);
        Due.is("behind 23 comes 0", x.hours(1), 0);
        Due.is("of the next DAY", x.count(10), 1);
        Due.is("a whole DAY", x.hours(24), 0);
        Due.is("DAY 2", x.count(10), 2);
        Due.is("60 from 0", x.hours(60), 12);
        Due.is("DAY 4", x.count(10), 4);
    }

    private static void nightWrapsWithTheShift() {
        // t is HOUR less SHIFT: below 0 and above 23 it goes around
        night(2123, 3, new int[] {0, 1}, new int[] {23, 2});
        night(2, -3, new int[] {21, 22}, new int[] {20, 23});
        night(1, -3, new int[] {21}, new int[] {20, 22, 0});
        night(2300, 1, new int[] {0}, new int[] {23, 1});
        night(2301, 0, new int[] {23, 0}, new int[] {22, 1});
        night(22, 0, new int[] {0, 21}, new int[] {22, 23});
        for (int same : new int[] {0, 1212, 2323}) {
            night(same, 0, new int[] {}, new int[] {0, 11, 12, 13, 22, 23});
        }
    }

    private static void night(int clock, int shift, int[] is, int[] isNot) {
        TownLamps x = new TownLamps();
        x.cabinet(0, clock);
        x.shift(0, shift);
        for (int hour : is) {
            goTo(x, hour);
            Due.is("NIGHT of " + clock + " with " + shift + " at " + hour, x.cabinetTold(0, 4), 1);
        }
        for (int hour : isNot) {
            goTo(x, hour);
            Due.is("no NIGHT of " + clock + " with " + shift + " at " + hour, x.cabinetTold(0, 4), 0);
        }
    }

    private static void goTo(TownLamps x, int hour) {
        int hours = Math.floorMod(hour - x.count(9), 24);
        if (hours > 0) {
            x.hours(hours);
        }
    }

    private static void fedByAllAhead() {
        TownLamps x = new TownLamps();
        x.cabinet(0, 1806);
        x.cabinet(0, 1806);
        x.joint(100, 0);
        for (int i = 1; i < 11; i++) {
            x.joint(i - 1, 0);
        }
        x.joint(101, 0);
        x.lamp(0, 10, 100);
        x.lamp(0, 5, 100);
        x.lamp(0, 11, 100);
        for (int joint = 0; joint < 12; joint++) {
            x.breaks(1, joint);
            Due.is("FED at 10 when " + joint + " is BROKEN", x.told(0, 6), joint <= 10 ? 0 : 1);
            Due.is("FED at 5 when " + joint + " is BROKEN", x.told(1, 6), joint <= 5 ? 0 : 1);
            Due.is("FED at 11 when " + joint + " is BROKEN", x.told(2, 6), joint == 11 ? 0 : 1);
            Due.is("DRAWN then", x.cabinetTold(0, 7), joint <= 5 ? 0 : joint <= 10 ? 10 : 20);
            Due.is("DUE all the same", x.cabinetTold(0, 6), 20);
            x.mend(1, joint);
        }
        x.breaks(0, 0);
        Due.is("FED when its CABINET is BROKEN", x.told(0, 6), 0);
        Due.is("FED when another CABINET is BROKEN", x.told(2, 6), 1);
        x.mend(0, 0);
        x.breaks(2, 0);
        Due.is("FED when OUT", x.told(0, 6), 0);
        Due.is("FED beside one that is OUT", x.told(1, 6), 1);
        x.mend(2, 0);
        Due.is("FED when all is whole", x.told(0, 6), 1);
    }

    private static void fedByTwelve() {
        TownLamps x = States.FULL.make();
        // joints 0 to 11 feed on one another; lamp 11 is at the last one, lamp 12 at the first
        Due.is("FED by all twelve", x.told(11, 6), 1);
        for (int joint = 0; joint < 12; joint++) {
            x.breaks(1, joint);
            Due.is("FED by twelve when " + joint + " is BROKEN", x.told(11, 6), 0);
            Due.is("FED by the first when " + joint + " is BROKEN", x.told(12, 6), joint == 0 ? 0 : 1);
            x.mend(1, joint);
        }
        x.breaks(0, 2);
        Due.is("FED by twelve when the CABINET is BROKEN", x.told(11, 6), 0);
        Due.is("the CABINET of the last", x.jointTold(11, 2), 2);
    }

    /** Every call has its answer when all rows are full to the last place. */
    private static void asManyAsThereMayBe() {
        TownLamps x = States.FULL.make();
        Due.is("blames: one DARK lamp and another", x.blames(), 1);
        Due.is("the SIGN that is DARK", x.blame(2, 2), 1);
        Due.is("the SENSOR by day", x.blame(2, 15), 0);
        for (int i = 0; i < 16; i++) {
            x.dark(i, true);
        }
        Due.is("all DARK: the cabinet", x.blames(), 1);
        Due.is("the last cabinet", x.blame(0, 2), 1);
        Due.is("not the first", x.blame(0, 0), 0);
        x.dark(14, false);
        // SIGNS 2, 8, 14 and FEASTS 4, 10 should; 2 is at joint 2, 14 too, 4 at 4, 8 at 8, 10 at 10
        Due.is("the joint ahead of 4, 8 and 10, and a lamp", x.blames(), 2);
        Due.is("joint 3", x.blame(1, 3), 1);
        Due.is("joint 4", x.blame(1, 4), 0);
        Due.is("lamp 2", x.blame(2, 2), 1);
        Due.is("LIGHT of 2: signs 2, 14, FEAST 10", x.light(2), 46 + 47 + 3 * 45);
        Due.is("LIGHT of 0: SIGN 8", x.light(0), 49);
        Due.is("DUE", x.cabinetTold(2, 6), 46 + 47 + 49 + 3 * 47 + 3 * 45);
        Due.is("DRAWN without the OUT", x.cabinetTold(2, 7), 46 + 47 + 49 + 3 * 45);
        Due.is("LAMPS of the first joint", x.jointTold(0, 4), 2);
        Due.is("the round", x.round(0, -1), 120);
        Due.is("together of all", x.together(0, 1000, 1), 1600 / 20);
        Due.is("the eighth told lamp does not SHOULD", x.guess(97), NONE);
        Due.is("the third told", x.guess(46), 4);
        x.keep();
        Due.is("hours", x.hours(60), 7);
        Due.is("back", x.back(), 19);
    }

    // ---- 2

    private static void feastDays() {
        for (int every : new int[] {1, 2, 7, 99}) {
            TownLamps x = Towns.withJoint();
            x.lamp(4, 0, 20);
            x.feast(every);
            for (int day = 0; day <= 100; day++) {
                Due.is("FEAST by " + every + " on day " + day, x.told(0, 7), day % every == 0 ? 1 : 0);
                x.hours(24);
            }
        }
        TownLamps y = Towns.withJoint();
        y.lamp(4, 0, 20);
        Due.is("by 7 at first: day 0", y.told(0, 7), 1);
        y.hours(5);
        Due.is("till 23", y.told(0, 7), 1);
        y.hours(1);
        Due.is("from 0 on no more", y.told(0, 7), 0);
        for (int i = 0; i < 5; i++) {
            y.hours(24);
        }
        y.hours(23);
        Due.is("day 6 at 23", y.told(0, 7), 0);
        y.hours(1);
        Due.is("day 7 at 0", y.told(0, 7), 1);
    }

    private static void dimIsHeld() {
        // of 99 one of a hundred is cut to 0, so two are needed to tell them apart
        int[][] due = {{-9999, 0}, {-2, 0}, {-1, 0}, {0, 0}, {1, 0}, {2, 1}, {98, 97}, {99, 98}, {100, 99}, {101, 99}, {102, 99}, {9999, 99}};
        for (int[] d : due) {
            TownLamps x = Towns.withJoint();
            x.lamp(1, 0, 990);
            x.lamp(3, 0, 990);
            Towns.text(x, "dim " + (d[0] < 0 ? "0-" + -d[0] : d[0]));
            Due.is("DIMMED 99 by dim " + d[0], x.told(0, 9), d[1]);
            Due.is("SENSOR 99 by dim " + d[0], x.told(1, 9), d[1] - d[1] / 3);
        }
    }

    private static void dimWithoutAText() {
        int[][] due = {{18, 99}, {23, 99}, {0, 49}, {1, 49}, {4, 49}, {5, 99}, {12, 99}};
        TownLamps x = Towns.withJoint();
        x.lamp(1, 0, 990);
        for (int[] d : due) {
            goTo(x, d[0]);
            Due.is("DIMMED 99 at " + d[0], x.told(0, 9), d[1]);
        }
    }

    private static void drawsAreCut() {
        // DRAW, then what SENSOR, SIGN, FEAST of it draw
        int[][] due = {{1, 1, 0, 0}, {2, 2, 1, 3}, {3, 2, 1, 3}, {4, 3, 2, 6}, {5, 4, 2, 6}, {6, 4, 3, 9}, {98, 66, 49, 147}, {99, 66, 49, 147}};
        for (int[] d : due) {
            TownLamps x = Towns.withJoint();
            int[] kinds = {3, 2, 4, 0, 1, 5};
            for (int kind : kinds) {
                x.lamp(kind, 0, 10 * d[0]);
            }
            for (int i = 0; i < 6; i++) {
                Due.is("KIND " + kinds[i] + " of DRAW " + d[0], x.told(i, 9), i < 3 ? d[i + 1] : d[0]);
            }
        }
    }

    private static void tubeDrawsByThousands() {
        tube(0, 10, 0);
        tube(21, 976, 0);
        // 43 days: 1988 at 0, and 2 more in each HOUR
        TownLamps x = tube(43, 1988, 1);
        x.hours(5);
        Due.is("TUBE of BURNT 1998", x.told(0, 9), 11);
        x.hours(1);
        Due.is("TUBE of BURNT 2000", x.told(0, 9), 12);
        x = tube(651, 29956, 29);
        x.hours(21);
        Due.is("TUBE of BURNT 29998", x.told(0, 9), 39);
        x.hours(1);
        Due.is("TUBE of BURNT 30000", x.told(0, 9), 40);
        x.mend(2, 0);
        x.hours(1);
        Due.is("TUBE of BURNT that is held", x.told(0, 9), 40);
    }

    /** A TUBE of DRAW 10 that burns in all HOURS but 23, at 0 when so many days have gone by. */
    private static TownLamps tube(int days, int burnt, int more) {
        TownLamps x = new TownLamps();
        x.cabinet(0, 23);
        x.joint(100, 0);
        x.lamp(5, 0, 100);
        Towns.text(x, "life 9999*4");
        x.hours(6);
        for (int left = 24 * days; left > 0; left -= 60) {
            x.hours(Math.min(60, left));
        }
        Due.is("BURNT behind " + days + " days", x.told(0, 4), burnt);
        Due.is("TUBE of BURNT " + burnt, x.told(0, 9), 10 + more);
        return x;
    }

    private static void lifeIsHeld() {
        String[] texts = {"0-9999", "0-1", "0", "1", "2", "9999*3+2", "9999*3+3", "9999*3+4", "9999*9999", "9999*9999*9999*2"};
        int wrapped = 9999 * 9999 * 9999 * 2;
        int[] due = {1, 1, 1, 1, 2, 29999, 30000, 30000, 30000, wrapped < 1 ? 1 : 30000};
        for (int i = 0; i < texts.length; i++) {
            TownLamps x = Towns.withJoint();
            x.lamp(2, 0, 100);
            Towns.text(x, "life " + texts[i]);
            Due.is("LIFE by " + texts[i], x.told(0, 11), due[i]);
        }
    }

    private static void lifeWithoutAText() {
        TownLamps x = Towns.withJoint();
        x.lamp(2, 0, 100);
        x.lamp(4, 0, 100);
        x.feast(1);
        for (int i = 0; i < 33; i++) {
            x.hours(60);
        }
        x.hours(19);
        Due.is("BURNT 1999", x.told(0, 4), 1999);
        Due.is("FEAST of BURNT 3998 is not OUT", x.told(1, 5), 0);
        x.hours(1);
        Due.is("FEAST of BURNT 4000", x.told(1, 4), 4000);
        Due.is("FEAST of BURNT 4000 is OUT", x.told(1, 5), 1);
        for (int i = 0; i < 33; i++) {
            x.hours(60);
        }
        x.hours(19);
        Due.is("SIGN of BURNT 3999 is not OUT", x.told(0, 5), 0);
        x.hours(1);
        Due.is("SIGN of BURNT 4000 is OUT", x.told(0, 5), 1);
        Due.is("BURNT of what was OUT", x.told(1, 4), 4000);
    }

    private static void tooDarkIsBelow() {
        TownLamps x = Towns.withJoint();
        x.lamp(0, 0, 500);
        x.lamp(0, 0, 503);
        int[][] due = {{49, 6}, {50, 6}, {51, 15}, {0, 0}, {1, 6}};
        for (int[] d : due) {
            Towns.text(x, "law " + d[0]);
            Due.is("TOO DARK by law " + d[0], x.tooDark(), d[1]);
        }
        Towns.text(x, "law 0-9999*9999*9999");
        Due.is("by a law that wraps above", x.tooDark(), -(9999 * 9999 * 9999) > 50 ? 15 : 0);
        Towns.text(x, "law 32*1024*1024*64");
        Due.is("by the least law", x.tooDark(), 0);
        Towns.text(x, "law 32*1024*1024*64-1");
        Due.is("by the greatest law", x.tooDark(), 15);
    }

    private static void priceIsHeld() {
        String[] texts = {"0-9999", "0-1", "0", "1", "998", "999", "1000", "9999", "9999*9999"};
        int[] due = {0, 0, 0, 1, 998, 999, 999, 999, 999};
        for (int i = 0; i < texts.length; i++) {
            TownLamps x = Towns.withJoint();
            x.lamp(0, 0, 70);
            Towns.text(x, "price " + texts[i]);
            x.hours(1);
            Due.is("PAID by price " + texts[i], x.bill(0), 7 * due[i]);
        }
        TownLamps y = Towns.withJoint();
        y.lamp(0, 0, 70);
        y.hours(1);
        Due.is("PAID without a TEXT", y.bill(0), 70);
    }

    private static void paidIsHeldExactly() {
        TownLamps x = new TownLamps();
        x.cabinet(0, 0);
        x.cabinet(0, 0);
        x.joint(100, 0);
        for (int i = 0; i < 15; i++) {
            x.lamp(4, 0, 990);
        }
        x.lamp(2, 0, 20);
        x.feast(1);
        x.breaks(2, 15);
        Towns.text(x, "price 999");
        x.hours(45);
        Due.is("PAID by 45 hours of 2205 by 999", x.cabinetTold(0, 8), 99125775);
        paidMore(x, 396, 873180);
        for (int i = 1; i < 15; i++) {
            x.breaks(2, i);
        }
        paidMore(x, 7, 1029);
        x.breaks(2, 0);
        x.mend(2, 15);
        paidMore(x, 14, 14);
        Due.is("PAID one below", x.cabinetTold(0, 8), 99999998);
        paidMore(x, 1, 1);
        Due.is("PAID as much as can be", x.cabinetTold(0, 8), 99999999);
        paidMore(x, 1, 0);
        paidMore(x, 999, 0);
        for (int i = 0; i < 15; i++) {
            x.mend(2, i);
        }
        paidMore(x, 999, 0);
        Due.is("PAID of the other", x.cabinetTold(1, 8), 0);
        Due.is("bill", x.bill(0), 99999999);
        Due.is("PAID then", x.cabinetTold(0, 8), 0);
        paidMore(x, 1, 15 * 147 + 1);
    }

    private static void paidMore(TownLamps x, int price, int due) {
        int before = x.cabinetTold(0, 8);
        Towns.text(x, "price " + price);
        x.hours(1);
        Due.is("PAID more by price " + price, x.cabinetTold(0, 8) - before, due);
    }

    private static void burntIsHeld() {
        TownLamps x = Towns.withJoint();
        x.lamp(4, 0, 100);
        x.feast(1);
        Towns.text(x, "life 9999*4");
        for (int i = 0; i < 249; i++) {
            x.hours(60);
        }
        x.hours(59);
        Due.is("BURNT 29998", x.told(0, 4), 29998);
        Due.is("not OUT", x.told(0, 5), 0);
        x.hours(1);
        Due.is("BURNT 30000", x.told(0, 4), 30000);
        Due.is("OUT", x.told(0, 5), 1);
        x.mend(2, 0);
        Due.is("BURNT stays", x.told(0, 4), 30000);
        x.hours(1);
        Due.is("BURNT is held", x.told(0, 4), 30000);
        Due.is("OUT again", x.told(0, 5), 1);
        x.change(0, 5);
        Due.is("BURNT anew", x.told(0, 4), 0);
    }

    private static void anHourByItsBegin() {
        TownLamps x = Towns.withJoint();
        x.lamp(1, 0, 400);
        Towns.text(x, "price h+1");
        goTo(x, 4);
        x.bill(0);
        x.hours(1);
        Due.is("PAID for 4: 20 by 5, though 5 has come", x.bill(0), 100);
        x.hours(1);
        Due.is("PAID for 5: 40 by 6, though day has come", x.bill(0), 240);
        x.hours(1);
        Due.is("PAID by day", x.bill(0), 0);
        Due.is("BURNT 18 to 5", x.told(0, 4), 12);
        TownLamps y = Towns.withJoint();
        y.lamp(4, 0, 100);
        Towns.text(y, "price d*100+1");
        y.hours(5);
        y.bill(0);
        y.hours(1);
        Due.is("PAID for the FEAST's last HOUR", y.bill(0), 15);
        Due.is("BURNT by it", y.told(0, 4), 12);
        y.hours(1);
        Due.is("PAID on no FEAST", y.bill(0), 0);
        // it pays for the HOUR in which it goes OUT, and by what it had BURNT ahead of it
        TownLamps z = new TownLamps();
        z.cabinet(0, 23);
        z.joint(100, 0);
        z.lamp(5, 0, 100);
        Towns.text(z, "life 1000");
        z.hours(6);
        for (int i = 0; i < 21; i++) {
            z.hours(24);
        }
        z.hours(11);
        Due.is("BURNT 998", z.told(0, 4), 998);
        z.bill(0);
        z.hours(1);
        Due.is("BURNT 1000 and OUT", z.told(0, 4) + z.told(0, 5), 1001);
        Due.is("PAID for it: 10, not 11", z.bill(0), 100);
        Due.is("DRAWS then", z.told(0, 9), 11);
        z.hours(1);
        Due.is("PAID when OUT", z.bill(0), 0);
    }

    // ---- 3

    private static void fault(String tape, int due) {
        TownLamps x = new TownLamps();
        Due.is("text of [" + tape + "]", Towns.text(x, tape), due < 0 ? 0 : -100 - due);
    }

    private static void words() {
        // letters are a .. z and digits 0 .. 9: a word goes on as long as they do
        for (char c = 0; c < 256; c++) {
            boolean isLetter = c >= 'a' && c <= 'z';
            boolean goesOn = c == ' ' || c == '(' || c == '!';
            fault("dim" + c, isLetter ? 0 : goesOn ? 4 : 3);
            fault(c + "dim 5", c == ' ' ? -1 : 0);
            boolean isDigit = c >= '0' && c <= '9';
            boolean isBetween = "|&<=>+-*/".indexOf(c) >= 0;
            fault("law 9" + c + "1", isDigit || isBetween ? -1 : c == ' ' ? 6 : 5);
            fault("law h" + c + "1", isBetween ? -1 : isLetter ? 4 : c == ' ' ? 6 : 5);
            fault("law 1234" + c, isDigit ? 4 : isBetween ? 9 : c == ' ' ? -1 : 8);
            boolean isName = c == 'h' || c == 'c';
            fault("law " + c, isDigit || isName ? -1 : goesOn ? 5 : 4);
        }
        fault("dim 5", -1);
        fault("dim  5", -1);
        fault("dim5", 3);
        fault("dim5 5", 3);
        fault("dim(5)", -1);
        fault("dim!5", -1);
        fault("law h<c", -1);
        fault("law hc", 4);
        fault("price", 5);
        fault("pric", 0);
        fault("prices 1", 0);
        fault("lifee 1", 0);
        fault("law law 1", 4);
        fault(" ", 1);
        fault("", 0);
    }

    private static void numbers() {
        fault("law 0", -1);
        fault("law 9999", -1);
        fault("law 10000", 4);
        fault("law 00001", 4);
        fault("law 1+22222+1", 6);
        fault("law 1 2345", 6);
        fault("law (99999)", 5);
        fault("law 1" + "0".repeat(91), 4);
    }

    private static void openBracketsAndNots() {
        for (int open = 1; open <= 10; open++) {
            String brackets = "(".repeat(open) + "1" + ")".repeat(open);
            fault("dim " + brackets, open <= 8 ? -1 : 12);
            fault("dim 1+" + brackets, open <= 8 ? -1 : 14);
            fault("dim (1)+" + brackets, open <= 8 ? -1 : 16);
            fault("dim (" + brackets + ")", open <= 7 ? -1 : 12);
            String nots = "!".repeat(open) + "1";
            fault("dim " + nots, open <= 8 ? -1 : 12);
            fault("dim !1+" + nots, open <= 8 ? -1 : 15);
            fault("dim !(1+" + nots + ")", open <= 7 ? -1 : 15);
            fault("dim !(1)+" + nots, open <= 8 ? -1 : 17);
            fault("dim !!((" + nots + "))", open <= 6 ? -1 : 14);
        }
        // each by itself
        fault("dim ((((((((!!!!!!!!1))))))))", -1);
        fault("dim !!!!!!!!((((((((1))))))))", -1);
        fault("dim ((((((((!!!!!!!!!1))))))))", 20);
        fault("dim !!!!!!!!(((((((((1)))))))))", 20);
        // the end comes too soon
        fault("dim ((((((((1)))))))", 20);
        fault("dim !!!!!!!!", 12);
        fault("dim ((((((((", 12);
        fault("dim (((((((((", 12);
    }

    private static void theTextThatCounts() {
        TownLamps x = Towns.withJoint();
        x.lamp(1, 0, 500);
        for (int i = 0; i < 13; i++) {
            Due.is("text " + i, Towns.text(x, "dim " + 2 * i), i);
            Due.is("the last told counts", x.told(0, 9), i);
            Due.is("why", x.why(0), i);
        }
        Due.is("a FAULT", Towns.text(x, "dim 80 80"), -107);
        Due.is("does not count", x.told(0, 9), 12);
        Due.is("text 13", Towns.text(x, "law 3"), 13);
        Due.is("another KEY does not count", x.told(0, 9), 12);
        Due.is("one too many", Towns.text(x, "dim 80"), FULL);
        Due.is("does not count either", x.told(0, 9), 12);
        Due.is("why still", x.why(0), 12);
        Due.is("texts", x.count(5), 14);
    }

    private static void aShorterTextBehindALonger() {
        TownLamps x = new TownLamps();
        Towns.text(x, "law !!!(5)+7*0");
        Due.is("law 0", x.tooDark(), 0);
        Towns.text(x, "law 5");
        Due.is("law 5", x.tooDark(), 15);
        Towns.text(x, "law !!!!!!!!0");
        Due.is("law 0 again", x.tooDark(), 0);
        Towns.text(x, "law 0+c");
        Due.is("law by c alone", x.tooDark(), 14);
        Towns.text(x, "law 0+h+!");
        Due.is("law by c still", x.tooDark(), 14);
        Due.is("how many of the shortest", x.textTold(1, 1), 1);
    }

    /** A law gives 1 where E is the value due, and then each class is TOO DARK without lamps. */
    private static void worth(String e, String due) {
        TownLamps x = new TownLamps();
        Due.is(e, Towns.text(x, "law (" + e + ")=(" + due + ")"), 0);
        Due.is(e + " is " + due, x.tooDark(), 15);
    }

    private static void worths() {
        String least = "32*1024*1024*64";
        String most = least + "-1";
        worth(most + "+1", least);
        worth(least + "-1", most);
        worth(least + "*2", "0");
        worth("0-" + least, least);
        worth("(" + least + ")/(0-1)", least);
        worth("(" + most + ")/(0-1)", least + "+1");
        worth("(" + most + ")*(" + most + ")", "1");
        worth("(" + least + ")/0", "0");
        worth("7/(1-1)", "0");
        worth("7/0*5+3", "3");
        worth("0/7", "0");
        worth("(0-7)/2", "0-3");
        worth("7/(0-2)", "0-3");
        worth("(0-7)/(0-2)", "3");
        worth("(0-1)/2", "0");
        worth("(" + least + ")<(" + most + ")", "1");
        worth("(" + most + ")<(" + least + ")", "0");
        worth("(" + least + ")>(" + most + ")", "0");
        worth("!(0-1)", "0");
        worth("!!(0-1)", "1");
        worth("(0-1)&(0-2)", "1");
        worth("(0-1)&0", "0");
        worth("0|(0-1)", "1");
        worth("2&1", "1");
        worth("2|4", "1");
        worth("1|1/0", "1");
        worth("0&1/0", "0");
        worth("(1=1)=(1=2)", "0");
    }

    // ---- 4

    private static void twoLampsOrMore() {
        TownLamps x = new TownLamps();
        x.cabinet(0, 1806);
        x.joint(100, 0);
        x.joint(0, 0);
        Due.is("without lamps", x.blames(), 0);
        Due.is("a cabinet without lamps", x.blame(0, 0), 0);
        x.lamp(0, 1, 100);
        x.dark(0, true);
        blamed(x, "one lamp alone", 0, 0, 0, 1);
        x.lamp(0, 1, 100);
        blamed(x, "one of two", 0, 0, 0, 1);
        x.dark(1, true);
        blamed(x, "two of two", 1, 0, 0, 0);
        x.lamp(0, 0, 100);
        blamed(x, "two of three, behind one joint", 0, 0, 1, 0);
        x.dark(2, true);
        blamed(x, "three of three", 1, 0, 0, 0);
        x.joint(100, 0);
        x.lamp(0, 2, 100);
        blamed(x, "three of four, behind one joint", 0, 1, 0, 0);
        x.dark(1, false);
        blamed(x, "one behind each", 0, 0, 0, 1);
        Due.is("and the lamp at the first joint", x.blame(2, 2), 1);
        Due.is("in all", x.blames(), 2);
    }

    private static void blamed(TownLamps x, String what, int cabinet, int joint0, int joint1, int lamp0) {
        Due.is(what + ": cabinet", x.blame(0, 0), cabinet);
        Due.is(what + ": joint 0", x.blame(1, 0), joint0);
        Due.is(what + ": joint 1", x.blame(1, 1), joint1);
        Due.is(what + ": lamp 0", x.blame(2, 0), lamp0);
    }

    private static void onlyThoseThatShouldAreBehind() {
        TownLamps x = Towns.withJoint();
        x.lamp(0, 0, 100);
        x.lamp(2, 0, 100);
        x.dark(0, true);
        x.dark(1, true);
        Due.is("by night two", x.blame(0, 0), 1);
        x.hours(12);
        Due.is("by day one, that is no two", x.blame(0, 0), 0);
        Due.is("the SIGN itself", x.blame(2, 1), 1);
        Due.is("the LAMP should not", x.blame(2, 0), 0);
        Due.is("in all", x.blames(), 1);
        x.lamp(2, 0, 100);
        x.dark(2, true);
        x.dark(0, false);
        Due.is("what should not need not be DARK", x.blame(0, 0), 1);
        x.breaks(2, 2);
        x.breaks(1, 0);
        Due.is("FED or not", x.blame(0, 0), 1);
        x.dark(2, false);
        Due.is("OUT but not told DARK", x.blame(0, 0), 0);
    }

    private static void guessOfThoseThatShould() {
        TownLamps x = Towns.withJoint();
        x.lamp(0, 0, 100);
        x.lamp(2, 0, 200);
        x.lamp(2, 0, 400);
        x.choose(0);
        x.choose(1);
        x.choose(2);
        Due.is("by night the first of two", x.guess(10), 1);
        x.hours(12);
        Due.is("by day the other", x.guess(10), 2);
        Due.is("by day both others", x.guess(30), 6);
        Due.is("by day not all", x.guess(40), NONE);
        x.change(2, 0);
        Due.is("by day the last should not", x.guess(20), NONE);
        x.breaks(0, 0);
        x.breaks(2, 1);
        Due.is("FED or not", x.guess(10), 2);
        x.change(1, 0);
        Due.is("none should", x.guess(10), NONE);
        Due.is("none for 0", x.guess(0), 0);
        // a lamp that draws 0 is not needed for 0
        TownLamps y = Towns.withJoint();
        y.lamp(2, 0, 10);
        y.choose(0);
        Due.is("none for 0, though one draws 0", y.guess(0), 0);
        Due.is("none draws 1", y.guess(1), NONE);
    }

    private static void guessOfEight() {
        TownLamps x = Towns.withJoint();
        for (int i = 0; i < 9; i++) {
            x.lamp(0, 0, 110);
        }
        for (int i = 0; i < 8; i++) {
            x.choose(7 - i);
        }
        for (int many = 1; many <= 8; many++) {
            Due.is(many + " of the same", x.guess(11 * many), (1 << many) - 1);
        }
        Due.is("nine are not told", x.guess(99), NONE);
        Due.is("the most that can be asked", x.guess(9999), NONE);
        x.change(0, 4);
        Due.is("the eighth told is bit 7: 15", x.guess(15), 128);
        Due.is("and one more", x.guess(26), 129);
        // fewer lamps are better than lesser bits
        TownLamps y = Towns.withJoint();
        for (int draw : new int[] {1, 2, 3, 4, 5, 6, 7, 28}) {
            y.lamp(0, 0, 10 * draw);
            y.choose(y.count(2) - 1);
        }
        Due.is("28 of one", y.guess(28), 128);
        Due.is("3 of one, not of 1 and 2", y.guess(3), 4);
        Due.is("8 of two: 3 and 5 ahead of 2 and 6, 1 and 7", y.guess(8), 4 + 16);
        y.breaks(2, 7);
        y.change(7, 2);
        Due.is("27 of three: 6, 7 and 14", y.guess(27), 32 + 64 + 128);
    }

    private static void theRoundOfOneAndSix() {
        TownLamps x = new TownLamps();
        x.cabinet(0, 0);
        x.cabinet(3030, 0);
        x.joint(100, 3030);
        x.joint(100, 0);
        x.joint(100, 3000);
        x.joint(100, 30);
        x.joint(100, 1515);
        x.joint(100, 1516);
        Due.is("by none", x.round(0, -1), 0);
        x.stop(0);
        Due.is("by one, there and back, as far as can be", x.round(0, -1), 120);
        Due.is("by one", x.round(0, 0), 0);
        Due.is("by one at its place", x.round(1, -1), 0);
        x.stop(1);
        Due.is("of two as long the first told", x.round(0, 0), 0);
        Due.is("then the other", x.round(0, 1), 1);
        Due.is("how long", x.round(0, -1), 120);
        for (int i = 2; i < 6; i++) {
            x.stop(i);
        }
        // 120 by the corners; by the middle 30 + 1 + 29 in place of 30
        Due.is("by six: the corners and the middle", x.round(0, -1), 120 + 30);
        int seen = 0;
        for (int i = 0; i < 6; i++) {
            seen |= 1 << x.round(0, i);
        }
        Due.is("each once", seen, 63);
    }

    private static void togetherBelow250() {
        // b alone costs where LIFE is below 250 times T, a alone makes the last T the least
        int[][] lives = {{249, 0}, {250, 1}, {251, 1}, {499, 1}, {500, 2}, {501, 2}, {4749, 18}, {4750, 19}, {4999, 19}, {5000, 20}, {5001, 20}, {30000, 20}};
        for (int[] life : lives) {
            TownLamps x = Towns.withJoint();
            x.lamp(0, 0, 100);
            Towns.text(x, "life " + life[0] / 10 + "*10+" + life[0] % 10);
            // a 1, b 999: up to the T told 100 by T, from there on 100000 by T
            int t = life[1] == 0 ? 20 : life[1];
            int cost = life[1] == 0 ? 100000 / 20 : 100 / t;
            int first = t;
            for (int earlier = t; earlier >= 1 && life[1] != 0; earlier--) {
                first = 100 / earlier == cost ? earlier : first;
            }
            Due.is("T of LIFE " + life[0], x.together(0, 1999, 0), first);
            Due.is("cost of LIFE " + life[0], x.together(0, 1999, 1), cost);
        }
    }

    private static void togetherOfCuts() {
        TownLamps x = Towns.withJoint();
        x.lamp(3, 0, 100);
        x.lamp(4, 0, 100);
        Due.is("nothing costs nothing: T 1", x.together(0, 0, 0), 1);
        Due.is("nothing costs nothing", x.together(0, 0, 1), 0);
        Due.is("b alone, LIFE 4000: T 1", x.together(0, 999, 0), 1);
        // 200 by T: 12 from 16 on; 250 times 16 is 4000, so that b comes at 17
        Due.is("till b comes", x.together(0, 1001, 0), 16);
        Due.is("what it costs", x.together(0, 1001, 1), 12);
        Due.is("with b 0", x.together(0, 1000, 0), 19);
        Due.is("with b 0 it costs", x.together(0, 1000, 1), 10);
        Due.is("of DIMMED the SENSOR", x.together(1, 1000, 0), 17);
        Due.is("of SIGN the FEAST", x.together(2, 1000, 1), 5);
        Due.is("of TUBE none", x.together(5, 1000, 1), NONE);
    }

    // ---- 5

    private static void sheetsOf24() {
        for (int sort = 0; sort <= 1; sort++) {
            TownLamps x = new TownLamps();
            x.sheet(3, sort, 24);
            for (int place = 0; place < 24; place++) {
                Due.is("mark " + place, x.mark(3, place, place - 12), 1);
            }
            Due.is("behind the last", x.mark(3, 24, 0), INDEX);
            x.lay(4, 2, 3);
            for (int place = 0; place < 24; place++) {
                Due.is("item " + place, x.item(4, place), place - 12);
            }
            Due.is("item behind the last", x.item(4, 24), INDEX);
            Due.is("all by one up", x.copy(3, 0, 3, 1, 23), 23);
            Due.is("all by one down", x.copy(3, 2, 3, 0, 22), 22);
            x.lay(4, 2, 3);
            for (int place = 0; place < 24; place++) {
                int due = place < 22 ? place - 11 : place == 22 ? 9 : 10;
                Due.is("copied " + place, x.item(4, place), due);
            }
            Due.is("made anew with fewer", x.sheet(3, sort, 1), 1);
            Due.is("they are gone", x.mark(3, 1, 0), INDEX);
            Due.is("made anew with more", x.sheet(3, sort, 24), 24);
            x.lay(4, 2, 3);
            Due.is("all 0", x.item(4, 0) | x.item(4, 1) | x.item(4, 23), 0);
            x.sheet(3, sort, 0);
            x.lay(4, 2, 3);
            Due.is("no places", x.item(4, 0), INDEX);
        }
        TownLamps y = new TownLamps();
        y.sheet(0, 0, 1);
        int[][] bits = {{32767, 32767}, {32768, -32768}, {65535, -1}, {65536, 0}, {65537, 1}, {-32768, -32768}, {-32769, 32767}, {Integer.MAX_VALUE, -1}, {Integer.MIN_VALUE, 0}, {Integer.MIN_VALUE + 1, 1}};
        for (int[] b : bits) {
            y.mark(0, 0, b[0]);
            y.lay(0, 2, 0);
            Due.is("the lowest 16 bits of " + b[0], y.item(0, 0), b[1]);
        }
        y.sheet(1, 1, 1);
        for (int v : new int[] {99999, -99999, 65536, 32768, 0}) {
            y.mark(1, 0, v);
            y.lay(0, 2, 1);
            Due.is("of floats " + v, y.item(0, 0), v);
        }
        y.mark(1, 0, NONE);
        y.lay(0, 2, 1);
        Due.is("NO NUMBER", y.item(0, 0), KIND);
        y.mark(1, 0, 0);
        Due.is("NO NUMBER there as it was then", y.item(0, 0), KIND);
    }

    /** Joint 0 is BROKEN, so lamps behind joint 1 do not burn, in none of the HOURS; and all texts count there. */
    private static void fitsAsHoursGoBy() {
        TownLamps x = Towns.withJoint();
        x.joint(0, 0);
        x.joint(100, 0);
        x.lamp(0, 1, 100);
        x.lamp(1, 2, 501);
        x.lamp(2, 2, 402);
        x.breaks(1, 0);
        Towns.text(x, "dim 10*c+h+d");
        Towns.text(x, "life 2+k*c");
        // DIMMED: 50 by 28, 29, 30 .. and OUT behind 3 hours; SIGN: 20, OUT behind 6
        int[] due = {34, 34, 35, 20, 20, 20, 0, 0};
        x.sheet(0, 0, 8);
        for (int place = 0; place < 8; place++) {
            Due.is("fits up to " + place, x.fits(0, 0), place < 6 ? place : NONE);
            x.mark(0, place, due[place]);
        }
        x.keep();
        int[] out = {0, 0, 1, 1, 1, 2, 2, 2};
        for (int i = 0; i < 8; i++) {
            x.tell(due[i]);
            x.tell(out[i]);
        }
        Due.is("the same hours told", x.check(8), 0);
        x.breaks(1, 2);
        Due.is("now nothing burns", x.fits(0, 0), 0);
        x.back();
        Due.is("back: it fits", x.fits(0, 0), NONE);
        Due.is("joint 0 is BROKEN still", x.jointTold(0, 3), 1);
        x.mend(1, 0);
        Due.is("with joint 0 it does not", x.fits(0, 0), 0);
        x.back();
        Due.is("joint 0 is BROKEN again", x.jointTold(0, 3), 1);
        // a place of no number is gone by, and the hour, too
        x.sheet(1, 1, 24);
        for (int place = 0; place < 24; place++) {
            x.mark(1, place, NONE);
        }
        Due.is("no numbers fit", x.fits(1, 0), NONE);
        x.mark(1, 23, 1);
        Due.is("the last place", x.fits(1, 0), 23);
        x.mark(1, 23, 0);
        Due.is("the last place fits", x.fits(1, 0), NONE);
        x.mark(1, 0, 33);
        Due.is("the first place", x.fits(1, 0), 0);
    }

    private static void imageKeepsAll() {
        String image = null;
        for (int many = 1; many <= 3; many++) {
            TownLamps x = States.SOME.make();
            for (int again = 1; again <= many; again++) {
                x.change(again, 5);
                x.hours(30);
                x.bill(0);
                x.clear();
                x.home();
                x.mend(1, 2);
                x.shift(0, again);
                x.dark(0, true);
                x.feast(again);
                Due.is("back", x.back(), 23);
            }
            String now = Towns.all(x) + x.feast(1);
            Due.same("as the image, time " + many, now, image == null ? now : image);
            image = now;
        }
        TownLamps y = new TownLamps();
        Due.is("no image", y.back(), NO);
        Due.is("an image of nothing", y.keep(), 18);
        y.cabinet(0, 0);
        y.hours(3);
        Due.is("back to nothing", y.back(), 18);
        Due.is("no cabinet", y.count(0), 0);
        Due.is("again", y.back(), 18);
        Due.is("a cabinet is number 0 again", y.cabinet(3030, 1), 0);
        Due.is("at its own place", y.cabinetTold(0, 0), 3030);
    }

    private static void hoursToldOf30() {
        TownLamps x = Towns.withJoint();
        x.lamp(0, 0, 100);
        Towns.text(x, "life 14");
        x.keep();
        // 12 hours of the first night, 12 of day, 2 of the second night
        for (int i = 0; i < 30; i++) {
            Due.is("tell", x.tell(i < 12 || i == 24 || i == 25 ? 10 : 0), 2 * i + 1);
            Due.is("tell", x.tell(i >= 25 ? 1 : 0), 2 * i + 2);
        }
        Due.is("a 61st", x.tell(0), FULL);
        Due.is("thirty hours", x.check(30), 0);
        Due.is("none wait", x.count(11), 0);
        Due.is("none told of thirty", x.check(30), 1);
        Due.is("none told of one", x.check(1), 1);
        x.tell(10);
        Due.is("one is missing", x.check(1), 2);
        x.tell(10);
        x.tell(0);
        x.tell(10);
        Due.is("one too many", x.check(1), 3);
        x.tell(11);
        Due.is("the first is wrong", x.check(30), 1);
        x.tell(10);
        x.tell(1);
        x.tell(10);
        Due.is("the second is wrong", x.check(30), 2);
    }

    /** An object answers its 512th call as it did its first ones. */
    private static void the512thCall() {
        TownLamps x = Towns.withJoint();
        x.lamp(2, 0, 100);
        x.keep();
        int calls = 4;
        while (calls < 511) {
            x.tell(5);
            x.tell(0);
            Due.is("check", x.check(1), 0);
            calls += 3;
        }
        Due.is("the 512th call", x.told(0, 9), 5);
    }
}
