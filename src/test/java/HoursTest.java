import java.util.Arrays;

/** Promises 14 to 22: hours, laws. */
public final class HoursTest {
    private static final int BAD = TownLamps.BAD;
    private static final int FULL = TownLamps.FULL;
    private static final int NONE = TownLamps.NONE;
    private static final int MIN = Integer.MIN_VALUE;
    private static final int MAX = Integer.MAX_VALUE;

    public static void main(String[] args) {
        promise14();
        wearAndLife();
        paidIsHeld();
        promise15();
        promise16();
        promise17();
        promise18();
        promise19();
        promise20Faults();
        promise20Depths();
        promise20Values();
        promise20Held();
        promise20Full();
        promise21();
        promise22();
        Due.end();
    }

    private static void promise14() {
        TownLamps x = Towns.withAll();
        Due.is("hours(1)", x.hours(1), 19);
        Due.is("hours(60)", x.hours(60), 7);
        Due.is("DAY", x.count(10), 3);
        for (int n : new int[] {0, -1, 61, MAX, MIN}) {
            Due.is("hours(" + n + ")", x.hours(n), BAD);
        }
        Due.is("HOUR after refusals", x.count(9), 7);
        TownLamps y = new TownLamps();
        for (int i = 0; i < 399; i++) {
            y.hours(60);
        }
        Due.is("DAY late", y.count(10), 998);
        Due.is("HOUR late", y.count(9), 6);
        Due.is("beyond DAY 999 by one", y.hours(42), FULL);
        Due.is("BAD is ahead of FULL", y.hours(61), BAD);
        Due.is("nothing went by", y.count(9), 6);
        Due.is("the last HOUR", y.hours(41), 23);
        Due.is("the last DAY", y.count(10), 999);
        Due.is("no more", y.hours(1), FULL);
        Due.is("no more than 60", y.hours(60), FULL);
    }

    private static void wearAndLife() {
        TownLamps x = Towns.withAll();
        Towns.text(x, "life 3*k+1");
        // lives: LAMP 1, DIMMED 4, SIGN 7, SENSOR 10, FEAST 13, TUBE 16
        x.hours(1);
        Due.is("LAMP is OUT", x.told(0, 5), 1);
        Due.is("one is OUT", x.count(3), 1);
        x.hours(2);
        Due.is("DIMMED is not OUT", x.told(1, 5), 0);
        x.hours(1);
        Due.is("DIMMED is OUT", x.told(1, 5), 1);
        Due.is("BURNT when OUT", x.told(1, 4), 4);
        Due.is("LAMP burns no more", x.told(0, 4), 1);
        Due.is("paid", x.cabinetTold(0, 8), 10 * (50 + 4 * 41 + 4 * (16 + 60 + 30 + 10)));
        x.mend(2, 0);
        Due.is("mended, BURNT LIFE, not OUT", x.told(0, 5), 0);
        x.hours(1);
        Due.is("OUT again", x.told(0, 5), 1);
        Due.is("BURNT more", x.told(0, 4), 2);
        // what does not burn does not go out by its life
        TownLamps y = Towns.withAll();
        y.hours(12);
        Towns.text(y, "life 1");
        y.hours(1);
        Due.is("LAMP by day", y.told(0, 5), 0);
        Due.is("SIGN by day", y.told(2, 5), 1);
        Due.is("BURNT of FEAST on day 0", y.told(4, 4), 12);
    }

    private static void paidIsHeld() {
        TownLamps x = new TownLamps();
        x.cabinet(0, 0);
        x.joint(100, 0);
        for (int i = 0; i < 16; i++) {
            x.lamp(4, 0, 990);
        }
        x.feast(1);
        Towns.text(x, "price 9999");
        Towns.text(x, "life 9999");
        // 16 lamps times 147 times 999: 2349648 an hour
        x.hours(42);
        Due.is("PAID", x.cabinetTold(0, 8), 42 * 2349648);
        x.hours(1);
        Due.is("PAID is held", x.cabinetTold(0, 8), 99999999);
        x.hours(60);
        Due.is("PAID is held on", x.bill(0), 99999999);
        Towns.text(x, "price 0-1");
        x.hours(1);
        Due.is("price is held at 0", x.bill(0), 0);
    }

    private static void promise15() {
        TownLamps x = Towns.withAll();
        x.hours(2);
        Due.is("bill(0)", x.bill(0), 2 * 2070);
        Due.is("bill(0) again", x.bill(0), 0);
        Due.is("PAID", x.cabinetTold(0, 8), 0);
        Due.is("PAID of the other", x.cabinetTold(1, 8), 240);
        x.hours(1);
        Due.is("bill(0) anew", x.bill(0), 2070);
        for (int c : new int[] {-1, 2, 3, MAX, MIN}) {
            Due.is("bill(" + c + ")", x.bill(c), BAD);
        }
        Due.is("bill(1)", x.bill(1), 360);
    }

    private static void promise16() {
        TownLamps x = Towns.withAll();
        int[] due = {50 + 30, 41 + 10, 16 + 12, 60};
        for (int c = 0; c < 4; c++) {
            Due.is("light(" + c + ")", x.light(c), due[c]);
        }
        x.breaks(2, 0);
        x.breaks(0, 1);
        Due.is("light without the OUT", x.light(0), 30);
        Due.is("light without the not FED", x.light(2), 16);
        for (int c : new int[] {-1, 4, MAX, MIN}) {
            Due.is("light(" + c + ")", x.light(c), BAD);
        }
    }

    private static void promise17() {
        TownLamps x = Towns.withAll();
        x.breaks(0, 0);
        x.breaks(0, 1);
        Due.is("tooDark without a TEXT", x.tooDark(), 0);
        x.mend(0, 0);
        x.mend(0, 1);
        Towns.text(x, "law 60");
        Due.is("law 60", x.tooDark(), 6);
        Towns.text(x, "law 61");
        Due.is("law 61", x.tooDark(), 14);
        Towns.text(x, "law c*(h>18)*1000");
        Due.is("law at 18", x.tooDark(), 0);
        x.hours(1);
        Due.is("law at 19", x.tooDark(), 14);
        Towns.text(x, "law 0-1");
        x.breaks(0, 0);
        Due.is("law below 0", x.tooDark(), 0);
        Towns.text(x, "law 1");
        Due.is("law 1", x.tooDark(), 11);
    }

    private static void promise18() {
        TownLamps x = new TownLamps();
        // "law h+14*c": law 24 for c 0 at 18, read from the highest byte on
        Due.is("feed", x.feed(0x6c617720, 0x682b3134, 0x2a632020), 12);
        Due.is("bytes", x.count(12), 12);
        Due.is("text", x.text(), 0);
        for (int i = 1; i <= 8; i++) {
            Due.is("feed " + i, x.feed(-1, 0, MIN), 12 * i);
        }
        Due.is("feed 9", x.feed(0, 0, 0), FULL);
        Due.is("bytes still", x.count(12), 96);
        x.trim(85);
        Due.is("feed at 85", x.feed(0, 0, 0), FULL);
        x.trim(84);
        Due.is("feed at 84", x.feed(0, 0, 0), 96);
        // each byte of each number counts
        int[] due = {0, 0, 0, 0, 0, 5, 6, 7, 8, 9, 10, 6};
        for (int i = 0; i < 12; i++) {
            byte[] tape = Towns.bytes("price 123456");
            tape[i] = (byte) 200;
            TownLamps y = new TownLamps();
            Towns.tape(y, tape);
            Due.is("byte " + i, y.text(), -100 - due[i]);
        }
    }

    private static void promise19() {
        TownLamps x = new TownLamps();
        Due.is("trim(0)", x.trim(0), 0);
        Due.is("trim(1) of none", x.trim(1), BAD);
        x.feed(0, 0, 0);
        for (int n : new int[] {-1, 13, MAX, MIN}) {
            Due.is("trim(" + n + ")", x.trim(n), BAD);
        }
        Due.is("bytes", x.count(12), 12);
        Due.is("trim(12)", x.trim(12), 12);
        Due.is("trim(5)", x.trim(5), 5);
        Due.is("trim(6)", x.trim(6), BAD);
        Due.is("bytes then", x.count(12), 5);
        Due.is("feed goes on there", x.feed(0, 0, 0), 17);
        x.trim(0);
        Towns.tape(x, Towns.bytes("law 12"));
        x.feed(0x33202020, 0x20202020, 0x20202020);
        Due.is("the first bytes are kept", x.text(), 0);
        x.cabinet(0, 0);
        x.joint(100, 0);
        x.lamp(2, 0, 990);
        Due.is("law 123", x.tooDark(), 15);
    }

    private static void promise20Faults() {
        fault("", 0);
        fault("   ", 3);
        fault("dim", 3);
        fault("dim ", 4);
        fault("dim 5 ", -1);
        fault("  dim 5", -1);
        fault("dim5", 3);
        fault("dimh", 0);
        fault("dim55555", 3);
        fault("dim(h)", -1);
        fault("dim!h", -1);
        fault("di 5", 0);
        fault("dims 5", 0);
        fault("xim 5", 0);
        fault("xife 5", 0);
        fault("xrice 5", 0);
        fault("xaw 5", 0);
        fault("law z", 4);
        fault("Dim 5", 0);
        fault("5 dim", 0);
        fault("(dim 5)", 0);
        fault("dim dim", 4);
        fault("life 5", -1);
        fault("price 5", -1);
        fault("law 5", -1);
        fault("lawn 5", 0);
        fault(" lif 5", 1);
        fault("dim h+d+c", -1);
        fault("dim k", 4);
        fault("dim w", 4);
        fault("life k+w+c", -1);
        fault("life h", 5);
        fault("life d", 5);
        fault("price h+d", -1);
        fault("price c", 6);
        fault("price k", 6);
        fault("law h+c", -1);
        fault("law d", 4);
        fault("law w", 4);
        fault("law hc", 4);
        fault("law h c", 6);
        fault("law h5", 5);
        fault("law 5h", 5);
        fault("law 5 5", 6);
        fault("law 1234", -1);
        fault("law 12345", 4);
        fault("law 00000", 4);
        fault("law 0000", -1);
        fault("law 1+12345", 6);
        fault("law 1+", 6);
        fault("law 1 + ", 8);
        fault("law +1", 4);
        fault("law -1", 4);
        fault("law 1--1", 6);
        fault("law 1<2", -1);
        fault("law 1<2<3", 7);
        fault("law 1<2=3", 7);
        fault("law (1<2)<3", -1);
        fault("law 1<(2<3)", -1);
        fault("law 1<=2", 6);
        fault("law 1<2&3<4|5>6&7=8", -1);
        fault("law 1<2&3<4<5", 11);
        fault("law !1<!2", -1);
        fault("law 1!", 5);
        fault("law 1!2", 5);
        fault("law !", 5);
        fault("law !)", 5);
        fault("law ()", 5);
        fault("law (1", 6);
        fault("law (1 ", 7);
        fault("law (1))", 7);
        fault("law 1)", 5);
        fault("law (1)2", 7);
        fault("law (1)h", 7);
        fault("law 2(1)", 5);
        fault("law h(1)", 5);
        fault("law (1)(2)", 7);
        fault("law 1*/2", 6);
        fault("law 1%2", 5);
        fault("law 1&&2", 6);
        fault("law 1||2", 6);
        fault("law H", 4);
        fault("law\t5", 3);
        fault("law 5\n", 5);
        fault("law 5\0", 5);
        fault("law \u00ff", 4);
        fault("law\u00a05", 3);
        fault("law 1\u00e9", 5);
        fault("law    1   +   h   *   ( c - 3 ) / 2   >   1   &   !   ( h | c )   ", -1);
        fault("law 1=1 = 1", 8);
        fault("law `", 4);
        fault("law {", 4);
        fault("law :", 4);
    }

    private static void fault(String tape, int due) {
        TownLamps x = new TownLamps();
        Towns.tape(x, Towns.bytes(tape));
        Due.is("text of [" + tape + "]", x.text(), due < 0 ? 0 : -100 - due);
        Due.is("tape is used up", x.count(12), 0);
        Due.is("texts", x.count(5), due < 0 ? 1 : 0);
        if (due >= 0) {
            for (int key = 0; key < 4; key++) {
                Due.is("why behind a fault", x.why(key), NONE);
            }
        }
    }

    private static void promise20Depths() {
        fault("law " + "(".repeat(8) + "1" + ")".repeat(8), -1);
        fault("law " + "(".repeat(9) + "1" + ")".repeat(9), 12);
        fault("law " + "!".repeat(8) + "1", -1);
        fault("law " + "!".repeat(9) + "1", 12);
        fault("law " + "!(".repeat(8) + "1" + ")".repeat(8), -1);
        fault("law " + "!(".repeat(8) + "!1" + ")".repeat(8), 20);
        fault("law " + "!(".repeat(8) + "(1)" + ")".repeat(8), 20);
        fault("law " + "(!".repeat(8) + "1" + ")".repeat(8), -1);
        // what has ended is open no more
        fault("law " + "(".repeat(8) + "1" + ")".repeat(8) + "+(((1)))", -1);
        fault("law " + "!".repeat(8) + "1+!!1", -1);
        fault("law !!!!(!!!!1+!!!!1)+!!!!!!!!1", -1);
        fault("law !!!!(!!!!1+!!!!!1)", 19);
        fault("law !(1)+!(!(!(!(!(!(!(!h)))))))", -1);
        fault("law ((1)+(2))*((((((((1))))))))", -1);
        fault("law ((1)+(2))*(((((((((1)))))))))", 22);
        fault("law (((((((1+(1)+(2)+((3", 22);
        // 96 bytes, the longest there are
        fault("law 1" + "+1".repeat(45) + " ", -1);
        fault("law 1" + "+1".repeat(45) + "+", 96);
        fault("dim " + " ".repeat(91) + "h", -1);
        fault("dim h" + " ".repeat(90) + "h", 95);
        fault(" ".repeat(96), 96);
        fault("dim" + "(".repeat(8) + "1".repeat(4) + "*h".repeat(36) + ")".repeat(8), -1);
    }

    private static void promise20Values() {
        value("7", 7);
        value("0012", 12);
        value("h", 18);
        value("c", 2);
        value("7+2*3", 13);
        value("(7+2)*3", 27);
        value("9-3-2", 4);
        value("9-(3-2)", 8);
        value("99/10/2", 4);
        value("9*10/4", 22);
        value("9/4*10", 20);
        value("(0-7)/2", -3);
        value("7/0", 0);
        value("(7/0)+3", 3);
        value("0/0", 0);
        value("1<2", 1);
        value("2<2", 0);
        value("3<2", 0);
        value("2=2", 1);
        value("2=3", 0);
        value("3>2", 1);
        value("2>2", 0);
        value("1+1=2", 1);
        value("5&3", 1);
        value("5&0", 0);
        value("0&5", 0);
        value("5|0", 1);
        value("0|5", 1);
        value("0|0", 0);
        value("0-5|0", 1);
        value("1|0&0", 1);
        value("(1|0)&0", 0);
        value("0&0|1", 1);
        value("2>1&3", 1);
        value("2&3=3", 1);
        value("4&3=4", 0);
        value("!0", 1);
        value("!7", 0);
        value("!!7", 1);
        value("!0+5", 6);
        value("!0*0", 0);
        value("!(0*0)", 1);
        value("!h<5", 1);
        value("10-!c", 10);
        value("9999*9999", 99980001);
        value("9999*9999*9999", 9999 * 9999 * 9999);
        value("0-9999*9999*99", -(9999 * 9999 * 99));
        value("32*1024*1024*64", MIN);
        value("32*1024*1024*64-1", MAX);
        value("(32*1024*1024*64)/(0-1)", MIN);
        value("(32*1024*1024*64)>0", 0);
        value("(32*1024*1024*64-1)+(h<c)", MAX);
        value("1+(2*(3+(4*(5+(6*(7+(8*1)))))))", 1 + 2 * (3 + 4 * (5 + 6 * 15)));
        value("1=1&(h=18)&(c=2)", 1);
    }

    /** A law gives 1 for class 2 at 18 where E is the value due, and then it is too dark without lamps. */
    private static void value(String e, int due) {
        TownLamps x = new TownLamps();
        String law = "law (" + e + ")=" + sum(due);
        Due.is(law, Towns.text(x, law), 0);
        Due.is(law, x.tooDark() & 4, 4);
    }

    private static String sum(int v) {
        if (v == MIN) {
            return "32*1024*1024*64";
        }
        int size = Math.abs(v);
        String tenThousands = "(" + size / 10000000 + "*1000+" + size / 10000 % 1000 + ")*5000*2";
        return v < 0 ? "0-" + tenThousands + "-" + size % 10000 : tenThousands + "+" + size % 10000;
    }

    private static void promise20Held() {
        TownLamps x = Towns.withAll();
        Due.is("dim", Towns.text(x, "dim 101"), 0);
        Due.is("dim above 100", x.told(1, 9), 41);
        Towns.text(x, "dim 0-1");
        Due.is("dim below 0", x.told(1, 9), 0);
        Due.is("SENSOR below 0", x.told(3, 9), 0);
        Towns.text(x, "dim 99");
        Due.is("dim 99 is cut", x.told(1, 9), 40);
        Towns.text(x, "dim c*10+d+h");
        Due.is("dim by c 1, d 0, h 18", x.told(1, 9), 41 * 28 / 100);
        Due.is("dim by c 3: 90 * 48 / 100 is 43, less 14", x.told(3, 9), 29);
        x.hours(24);
        Due.is("dim by d 1", x.told(1, 9), 41 * 29 / 100);
        Due.is("others are not dimmed", x.told(0, 9) + x.told(2, 9) + x.told(4, 9) + x.told(5, 9), 50 + 16 + 30 + 10);
        Towns.text(x, "life 0");
        Due.is("life is 1 at least", x.told(0, 11), 1);
        Towns.text(x, "life 9999*4");
        Due.is("life is 30000 at most", x.told(0, 11), 30000);
        Towns.text(x, "life 1000*k+10*w+c");
        Due.is("life by k, w, c", x.told(3, 11), 3903);
        TownLamps y = Towns.withAll();
        Towns.text(y, "price h+d*100");
        y.hours(1);
        Due.is("price at 18", y.bill(0), 207 * 18);
        y.hours(23);
        y.bill(0);
        y.hours(1);
        Due.is("price at 18 of day 1", y.bill(0), 177 * 118);
    }

    private static void promise20Full() {
        TownLamps x = new TownLamps();
        for (int i = 0; i < 14; i++) {
            Due.is("text " + i, Towns.text(x, "law " + i), i);
        }
        Due.is("text 14", Towns.text(x, "dim 1"), FULL);
        Due.is("the tape is used up", x.count(12), 0);
        Due.is("a FAULT is ahead of FULL", Towns.text(x, "dim k"), -104);
        Due.is("the tape is used up by a FAULT", x.count(12), 0);
        Due.is("texts", x.count(5), 14);
        Due.is("why dim", x.why(0), NONE);
        Due.is("why law", x.why(3), 13);
    }

    private static void promise21() {
        TownLamps x = new TownLamps();
        Towns.text(x, "dim 5");
        Towns.text(x, "life k+k*2");
        Towns.text(x, "price !(((h)))");
        Towns.text(x, "law 1234-1+c/h");
        int[] atoms = {1, 3, 1, 4};
        for (int i = 0; i < 4; i++) {
            Due.is("KEY of " + i, x.textTold(i, 0), i);
            Due.is("NUMBERS and NAMES of " + i, x.textTold(i, 1), atoms[i]);
        }
        Towns.text(x, "dim 1+2+3+4+5+6+7+8+9+x");
        Due.is("a fault changes no text", x.textTold(3, 1), 4);
        int[][] bad = {{-1, 0}, {4, 0}, {14, 0}, {MAX, 0}, {MIN, 0}, {0, -1}, {0, 2}, {0, MAX}, {0, MIN}};
        for (int[] b : bad) {
            Due.is("textTold" + Arrays.toString(b), x.textTold(b[0], b[1]), BAD);
        }
    }

    private static void promise22() {
        TownLamps x = new TownLamps();
        for (int key = 0; key < 4; key++) {
            Due.is("why(" + key + ")", x.why(key), NONE);
        }
        for (int key : new int[] {-1, 4, MAX, MIN}) {
            Due.is("why(" + key + ")", x.why(key), BAD);
        }
        Towns.text(x, "price 1");
        Towns.text(x, "law 1");
        Towns.text(x, "price 2");
        Towns.text(x, "dim 1");
        Towns.text(x, "life 1");
        Towns.text(x, "life x");
        int[] due = {3, 4, 2, 1};
        for (int key = 0; key < 4; key++) {
            Due.is("why(" + key + ") then", x.why(key), due[key]);
        }
    }
}
