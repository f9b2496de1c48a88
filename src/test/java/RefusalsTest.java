import java.lang.reflect.Method;

/**
 * Each refusal that promises 2 to 45 name: on both sides of its boundary, the one that stands
 * first where there are several, and that nothing changes by it but what the document tells.
 */
public final class RefusalsTest {
    private static final int BAD = TownLamps.BAD;
    private static final int NO = TownLamps.NO;
    private static final int NONE = TownLamps.NONE;
    private static final int NOTHING = TownLamps.NOTHING;
    private static final int KIND = TownLamps.KIND;
    private static final int INDEX = TownLamps.INDEX;
    private static final int SIZE = TownLamps.SIZE;
    private static final State EMPTY = States.EMPTY;
    private static final State SOME = States.SOME;
    private static final State FULL = States.FULL;

    public static void main(String[] args) {
        promises2To4();
        promise5();
        promise6();
        promise7();
        promises8To10();
        promises11To13();
        promise14();
        promises15To17();
        promises18And19();
        promise20();
        promises21And22();
        promises23To25();
        promises26To28();
        promises29To31();
        promise32();
        promise33();
        promise34();
        promise35();
        promise36();
        promise37();
        promises38To40();
        promises41And42();
        promises43To45();
        noCallThrows();
        Due.end();
    }

    private static void promises2To4() {
        SOME.refuses(BAD, "cabinet(-1, 1806)", "cabinet(-100, 1806)", "cabinet(31, 1806)", "cabinet(99, 1806)", "cabinet(131, 1806)",
            "cabinet(3031, 1806)", "cabinet(3100, 1806)", "cabinet(3130, 1806)", "cabinet(MIN, 1806)", "cabinet(MAX, 1806)");
        SOME.refuses(BAD, "cabinet(0, -1)", "cabinet(0, -100)", "cabinet(0, 24)", "cabinet(0, 25)", "cabinet(0, 99)", "cabinet(0, 124)",
            "cabinet(0, 2324)", "cabinet(0, 2399)", "cabinet(0, 2400)", "cabinet(0, 2423)", "cabinet(0, 2500)", "cabinet(0, MIN)", "cabinet(0, MAX)");
        for (String good : new String[] {"0, 0", "30, 23", "3000, 2300", "3030, 2323", "2930, 2223", "100, 1"}) {
            SOME.answers("cabinet(" + good + ")", 2);
        }
        FULL.refuses(TownLamps.FULL, "cabinet(0, 0)", "cabinet(3030, 2323)");
        FULL.refuses(BAD, "cabinet(31, 0)", "cabinet(0, 24)", "cabinet(-1, -1)");

        EMPTY.refuses(BAD, "cabinetTold(0, 0)", "cabinetTold(-1, 0)");
        SOME.refuses(BAD, "cabinetTold(-1, 0)", "cabinetTold(2, 0)", "cabinetTold(100, 0)", "cabinetTold(MIN, 0)", "cabinetTold(MAX, 0)",
            "cabinetTold(0, -1)", "cabinetTold(0, 9)", "cabinetTold(0, MIN)", "cabinetTold(0, MAX)");
        FULL.refuses(BAD, "cabinetTold(3, 0)");
        SOME.answers("cabinetTold(0, 0)", 505);
        SOME.answers("cabinetTold(1, 2)", 20);
        FULL.answers("cabinetTold(2, 0)", 3030);
        FULL.answers("cabinetTold(2, 2)", 12);

        EMPTY.refuses(BAD, "shift(0, 0)");
        SOME.refuses(BAD, "shift(-1, 0)", "shift(2, 0)", "shift(MIN, 0)", "shift(MAX, 0)", "shift(1, -4)", "shift(1, 4)", "shift(1, MIN)", "shift(1, MAX)");
        FULL.refuses(BAD, "shift(3, 0)");
        SOME.answers("shift(1, -3)", 2);
        SOME.answers("shift(1, 3)", 2);
        SOME.answers("shift(0, 0)", 0);
        FULL.answers("shift(2, 3)", 0);
    }

    private static void promise5() {
        EMPTY.refuses(BAD, "joint(100, 0)", "joint(0, 0)", "joint(-1, 0)");
        SOME.refuses(BAD, "joint(-1, 0)", "joint(5, 0)", "joint(11, 0)", "joint(12, 0)", "joint(98, 0)", "joint(99, 0)", "joint(102, 0)", "joint(103, 0)",
            "joint(200, 0)", "joint(MIN, 0)", "joint(MAX, 0)");
        SOME.refuses(BAD, "joint(100, -1)", "joint(100, 31)", "joint(100, 99)", "joint(100, 3031)", "joint(100, 3100)", "joint(4, 31)", "joint(100, MIN)", "joint(100, MAX)");
        for (String good : new String[] {"100, 0", "101, 3030", "0, 30", "4, 3000"}) {
            SOME.answers("joint(" + good + ")", 5);
        }
        FULL.refuses(TownLamps.FULL, "joint(0, 0)", "joint(11, 3030)", "joint(100, 0)", "joint(102, 0)");
        FULL.refuses(BAD, "joint(12, 0)", "joint(103, 0)", "joint(99, 0)", "joint(-1, 0)", "joint(11, 31)", "joint(100, 3100)");
    }

    private static void promise6() {
        EMPTY.refuses(BAD, "jointTold(0, 0)");
        SOME.refuses(BAD, "jointTold(-1, 0)", "jointTold(5, 0)", "jointTold(100, 0)", "jointTold(MIN, 0)", "jointTold(MAX, 0)", "jointTold(0, -1)",
            "jointTold(0, 5)", "jointTold(0, MIN)", "jointTold(0, MAX)");
        FULL.refuses(BAD, "jointTold(12, 0)");
        SOME.answers("jointTold(0, 0)", 100);
        SOME.answers("jointTold(4, 2)", 1);
        SOME.answers("jointTold(4, 4)", 0);
        FULL.answers("jointTold(11, 0)", 10);
        FULL.answers("jointTold(11, 2)", 2);
        FULL.answers("jointTold(0, 4)", 2);
    }

    private static void promise7() {
        EMPTY.refuses(BAD, "lamp(0, 0, 10)");
        SOME.refuses(BAD, "lamp(-1, 0, 10)", "lamp(6, 0, 10)", "lamp(MIN, 0, 10)", "lamp(MAX, 0, 10)", "lamp(0, -1, 10)", "lamp(0, 5, 10)", "lamp(0, 100, 10)",
            "lamp(0, MIN, 10)", "lamp(0, MAX, 10)");
        SOME.refuses(BAD, "lamp(0, 0, 0)", "lamp(0, 0, 3)", "lamp(0, 0, 9)", "lamp(0, 0, -10)", "lamp(0, 0, 14)", "lamp(0, 0, 19)", "lamp(0, 0, 984)", "lamp(0, 0, 994)",
            "lamp(0, 0, 999)", "lamp(0, 0, 1000)", "lamp(0, 0, 1003)", "lamp(0, 0, MIN)", "lamp(0, 0, MAX)");
        for (String good : new String[] {"0, 0, 10", "5, 4, 13", "1, 2, 990", "3, 3, 993"}) {
            SOME.answers("lamp(" + good + ")", 7);
        }
        FULL.refuses(TownLamps.FULL, "lamp(0, 0, 10)", "lamp(5, 11, 993)");
        FULL.refuses(BAD, "lamp(6, 0, 10)", "lamp(0, 12, 10)", "lamp(0, 0, 14)", "lamp(0, 0, 9)");
    }

    private static void promises8To10() {
        EMPTY.refuses(BAD, "told(0, 0)");
        SOME.refuses(BAD, "told(-1, 0)", "told(7, 0)", "told(MIN, 0)", "told(MAX, 0)", "told(0, -1)", "told(0, 13)", "told(0, MIN)", "told(0, MAX)");
        FULL.refuses(BAD, "told(16, 0)");
        SOME.answers("told(0, 0)", 0);
        SOME.answers("told(6, 12)", 0);
        FULL.answers("told(15, 12)", 1);
        FULL.answers("told(15, 0)", 3);

        EMPTY.refuses(BAD, "as(0, 0)");
        SOME.refuses(BAD, "as(-1, 0)", "as(7, 0)", "as(MIN, 0)", "as(MAX, 0)", "as(0, -1)", "as(0, 6)", "as(0, MIN)", "as(0, MAX)");
        // no such lamp, so that it is of no KIND stands behind it
        SOME.refuses(BAD, "as(7, 5)", "as(-1, 3)");
        SOME.refuses(KIND, "as(0, 1)", "as(0, 2)", "as(0, 3)", "as(0, 4)", "as(0, 5)", "as(1, 2)", "as(1, 3)", "as(2, 4)", "as(2, 1)", "as(3, 2)", "as(4, 1)", "as(5, 1)");
        FULL.refuses(BAD, "as(16, 0)", "as(15, 6)");
        SOME.answers("as(3, 1)", 5);
        SOME.answers("as(4, 2)", 10);
        FULL.answers("as(15, 3)", 0);

        EMPTY.refuses(BAD, "change(0, 0)");
        SOME.refuses(BAD, "change(-1, 0)", "change(7, 0)", "change(MIN, 0)", "change(MAX, 0)", "change(0, -1)", "change(0, 6)", "change(0, MIN)", "change(0, MAX)");
        FULL.refuses(BAD, "change(16, 0)");
        SOME.answers("change(6, 5)", 0);
        SOME.answers("change(5, 0)", 5);
        FULL.answers("change(15, 0)", 3);
    }

    private static void promises11To13() {
        SOME.refuses(BAD, "feast(0)", "feast(-1)", "feast(-7)", "feast(100)", "feast(MIN)", "feast(MAX)");
        SOME.answers("feast(1)", 2);
        SOME.answers("feast(99)", 2);
        EMPTY.refuses(BAD, "feast(0)", "feast(100)");
        EMPTY.answers("feast(99)", 7);
        for (String act : new String[] {"breaks", "mend"}) {
            EMPTY.refuses(BAD, act + "(0, 0)", act + "(1, 0)", act + "(2, 0)");
            SOME.refuses(BAD, act + "(-1, 0)", act + "(3, 0)", act + "(MIN, 0)", act + "(MAX, 0)", act + "(0, -1)", act + "(0, 2)", act + "(0, 100)", act + "(1, -1)",
                act + "(1, 5)", act + "(2, -1)", act + "(2, 7)", act + "(0, MIN)", act + "(1, MAX)", act + "(2, MIN)");
            FULL.refuses(BAD, act + "(0, 3)", act + "(1, 12)", act + "(2, 16)");
        }
        // what is no news is no refusal, but changes nothing either
        SOME.staysBehind(0, "breaks(0, 1)", "breaks(1, 2)", "breaks(2, 0)", "mend(0, 0)", "mend(1, 4)", "mend(2, 6)");
        SOME.answers("breaks(0, 0)", 1);
        SOME.answers("breaks(1, 4)", 1);
        SOME.answers("breaks(2, 6)", 1);
        SOME.answers("mend(0, 1)", 1);
        SOME.answers("mend(1, 2)", 1);
        SOME.answers("mend(2, 0)", 1);
        FULL.answers("breaks(0, 2)", 1);
        FULL.answers("breaks(1, 11)", 1);
        FULL.answers("breaks(2, 15)", 1);
    }

    private static void promise14() {
        SOME.refuses(BAD, "hours(0)", "hours(-1)", "hours(61)", "hours(MIN)", "hours(MAX)");
        SOME.answers("hours(1)", 2);
        SOME.answers("hours(60)", 13);
        States.LAST_HOUR.answers("count(9)", 23);
        States.LAST_HOUR.answers("count(10)", 999);
        States.LAST_HOUR.refuses(TownLamps.FULL, "hours(1)", "hours(2)", "hours(24)", "hours(60)");
        States.LAST_HOUR.refuses(BAD, "hours(0)", "hours(61)", "hours(MAX)", "hours(MIN)");
        States.LAST_BUT_ONE.answers("hours(1)", 23);
        States.LAST_BUT_ONE.refuses(TownLamps.FULL, "hours(2)", "hours(60)");
    }

    private static void promises15To17() {
        EMPTY.refuses(BAD, "bill(0)");
        SOME.refuses(BAD, "bill(-1)", "bill(2)", "bill(MIN)", "bill(MAX)");
        FULL.refuses(BAD, "bill(3)");
        FULL.answers("bill(0)", 0);
        EMPTY.refuses(BAD, "light(-1)", "light(4)");
        SOME.refuses(BAD, "light(-1)", "light(4)", "light(MIN)", "light(MAX)");
        EMPTY.answers("light(0)", 0);
        EMPTY.answers("light(3)", 0);
        EMPTY.answers("tooDark()", 0);
    }

    private static void promises18And19() {
        FULL.refuses(TownLamps.FULL, "feed(0, 0, 0)", "feed(MIN, MAX, -1)");
        new State("85 bytes", x -> bytesOfTape(x, 85)).refuses(TownLamps.FULL, "feed(0, 0, 0)", "feed(1818326816, 1818326816, 1)");
        new State("84 bytes", x -> bytesOfTape(x, 84)).answers("feed(0, 0, 0)", 96);
        EMPTY.answers("feed(MIN, MAX, 0)", 12);
        EMPTY.refuses(BAD, "trim(-1)", "trim(1)", "trim(12)", "trim(MIN)", "trim(MAX)");
        EMPTY.staysBehind(0, "trim(0)");
        SOME.refuses(BAD, "trim(-1)", "trim(9)", "trim(96)", "trim(MIN)", "trim(MAX)");
        SOME.staysBehind(8, "trim(8)");
        SOME.answers("trim(7)", 7);
        SOME.answers("trim(0)", 0);
        FULL.refuses(BAD, "trim(97)", "trim(-1)");
        FULL.staysBehind(96, "trim(96)");
    }

    private static void bytesOfTape(TownLamps x, int many) {
        Towns.tape(x, Towns.bytes("law 5" + " ".repeat(many - 5)));
    }

    private static void promise20() {
        EMPTY.refusesBut(State.TAPE, -100, "text()");
        new State("a fault", x -> Towns.tape(x, Towns.bytes("life 3*h"))).refusesBut(State.TAPE, -107, "text()");
        new State("a fault at the end", x -> Towns.tape(x, Towns.bytes("life 3*  "))).refusesBut(State.TAPE, -109, "text()");
        FULL.refusesBut(State.TAPE, TownLamps.FULL, "text()");
        new State("14 texts and a fault", x -> textsAnd(x, 14, "law 1+")).refusesBut(State.TAPE, -106, "text()");
        new State("14 texts and no tape", x -> textsAnd(x, 14, "")).refusesBut(State.TAPE, -100, "text()");
        new State("13 texts", x -> textsAnd(x, 13, "dim 9")).answers("text()", 13);
        new State("14 texts", x -> textsAnd(x, 14, "dim 9")).refusesBut(State.TAPE, TownLamps.FULL, "text()");
        for (String tape : new String[] {"", "dim 9", "dim x"}) {
            for (int texts : new int[] {0, 14}) {
                TownLamps x = new TownLamps();
                textsAnd(x, texts, tape);
                x.text();
                Due.is("bytes behind text() of [" + tape + "] with " + texts, x.count(12), 0);
                Due.is("the next text() is of none", x.text(), -100);
            }
        }
    }

    private static void textsAnd(TownLamps x, int texts, String tape) {
        for (int i = 0; i < texts; i++) {
            Towns.text(x, "life " + i);
        }
        Towns.tape(x, Towns.bytes(tape));
    }

    private static void promises21And22() {
        EMPTY.refuses(BAD, "textTold(0, 0)", "textTold(-1, 0)");
        SOME.refuses(BAD, "textTold(-1, 0)", "textTold(4, 0)", "textTold(MIN, 0)", "textTold(MAX, 0)", "textTold(0, -1)", "textTold(0, 2)", "textTold(0, MIN)", "textTold(0, MAX)");
        FULL.refuses(BAD, "textTold(14, 0)");
        SOME.answers("textTold(0, 1)", 2);
        SOME.answers("textTold(3, 0)", 0);
        FULL.answers("textTold(13, 0)", 3);
        EMPTY.staysBehind(NONE, "why(0)", "why(1)", "why(2)", "why(3)");
        EMPTY.refuses(BAD, "why(-1)", "why(4)");
        SOME.refuses(BAD, "why(-1)", "why(4)", "why(MIN)", "why(MAX)");
        SOME.staysBehind(NONE, "why(1)");
        SOME.answers("why(0)", 3);
        SOME.answers("why(3)", 1);
        FULL.answers("why(3)", 13);
    }

    private static void promises23To25() {
        EMPTY.refuses(BAD, "dark(0, true)", "dark(0, false)");
        SOME.refuses(BAD, "dark(-1, true)", "dark(7, true)", "dark(-1, false)", "dark(7, false)", "dark(MIN, true)", "dark(MAX, true)");
        FULL.refuses(BAD, "dark(16, true)", "dark(16, false)");
        SOME.staysBehind(0, "dark(1, true)", "dark(6, false)");
        SOME.answers("dark(6, true)", 1);
        SOME.answers("dark(1, false)", 1);
        FULL.answers("dark(15, false)", 1);
        EMPTY.refuses(BAD, "blame(0, 0)", "blame(1, 0)", "blame(2, 0)");
        SOME.refuses(BAD, "blame(-1, 0)", "blame(3, 0)", "blame(MIN, 0)", "blame(MAX, 0)", "blame(0, -1)", "blame(0, 2)", "blame(1, -1)", "blame(1, 5)", "blame(2, -1)", "blame(2, 7)",
            "blame(0, MIN)", "blame(1, MAX)", "blame(2, MIN)");
        FULL.refuses(BAD, "blame(0, 3)", "blame(1, 12)", "blame(2, 16)");
        FULL.staysBehind(0, "blame(0, 2)", "blame(1, 11)", "blame(2, 15)");
        EMPTY.answers("blames()", 0);
    }

    private static void promises26To28() {
        EMPTY.refuses(BAD, "choose(0)");
        SOME.refuses(BAD, "choose(-1)", "choose(7)", "choose(16)", "choose(MIN)", "choose(MAX)");
        SOME.refuses(NO, "choose(1)", "choose(2)", "choose(4)", "choose(5)");
        SOME.answers("choose(0)", 5);
        SOME.answers("choose(6)", 5);
        FULL.refuses(TownLamps.FULL, "choose(8)", "choose(15)");
        FULL.refuses(NO, "choose(0)", "choose(7)");
        FULL.refuses(BAD, "choose(-1)", "choose(16)");
        EMPTY.staysBehind(0, "clear()");
        SOME.answers("clear()", 4);
        FULL.answers("clear()", 8);
        SOME.refuses(BAD, "guess(-1)", "guess(10000)", "guess(MIN)", "guess(MAX)");
        EMPTY.refuses(BAD, "guess(-1)", "guess(10000)");
        EMPTY.staysBehind(NONE, "guess(1)", "guess(9999)");
        SOME.staysBehind(NONE, "guess(9999)", "guess(1)");
        SOME.answers("guess(0)", 0);
    }

    private static void promises29To31() {
        EMPTY.refuses(BAD, "stop(0)");
        SOME.refuses(BAD, "stop(-1)", "stop(5)", "stop(12)", "stop(100)", "stop(MIN)", "stop(MAX)");
        SOME.refuses(NO, "stop(0)", "stop(1)", "stop(3)");
        SOME.answers("stop(4)", 4);
        SOME.answers("stop(2)", 4);
        FULL.refuses(TownLamps.FULL, "stop(6)", "stop(11)");
        FULL.refuses(NO, "stop(0)", "stop(5)");
        FULL.refuses(BAD, "stop(-1)", "stop(12)", "stop(102)");
        EMPTY.staysBehind(0, "home()");
        SOME.answers("home()", 3);
        FULL.answers("home()", 6);
        EMPTY.refuses(BAD, "round(0, -1)", "round(0, 0)", "round(-1, -1)");
        SOME.refuses(BAD, "round(-1, -1)", "round(2, -1)", "round(MIN, 0)", "round(MAX, 0)", "round(0, -2)", "round(0, 3)", "round(0, 5)", "round(0, MIN)", "round(0, MAX)");
        SOME.answers("round(0, -1)", 80);
        FULL.refuses(BAD, "round(3, -1)", "round(2, 6)", "round(2, -2)");
        FULL.answers("round(2, 0)", 0);
        new State("no stops", x -> x.cabinet(0, 0)).refuses(BAD, "round(0, 0)", "round(0, -2)", "round(1, -1)");
        new State("no stops", x -> x.cabinet(0, 0)).staysBehind(0, "round(0, -1)");
    }

    private static void promise32() {
        SOME.refuses(BAD, "together(-1, 0, 0)", "together(6, 0, 0)", "together(MIN, 0, 0)", "together(MAX, 0, 0)", "together(0, -1, 0)", "together(0, -1000, 0)", "together(0, 1000000, 0)",
            "together(0, MIN, 0)", "together(0, MAX, 0)", "together(0, 0, -1)", "together(0, 0, 2)", "together(0, 0, MIN)", "together(0, 0, MAX)");
        EMPTY.refuses(NONE, "together(0, 0, 0)", "together(5, 999999, 1)");
        EMPTY.refuses(BAD, "together(6, 0, 0)", "together(0, 1000000, 0)", "together(0, -1, 0)", "together(0, 0, 2)", "together(0, 0, -1)");
        State signs = new State("a sign alone", x -> {
            x.cabinet(0, 0);
            x.joint(100, 0);
            x.lamp(2, 0, 10);
        });
        signs.refuses(NONE, "together(1, 1001, 0)", "together(3, 1001, 0)", "together(4, 1001, 0)", "together(5, 1001, 1)");
        signs.answers("together(0, 999999, 1)", 999 * 100 / 16);
        signs.answers("together(2, 999999, 0)", 16);
        signs.answers("together(2, 0, 1)", 0);
    }

    private static void promise33() {
        SOME.refuses(BAD, "sheet(-1, 0, 1)", "sheet(4, 0, 1)", "sheet(MIN, 0, 1)", "sheet(MAX, 0, 1)", "sheet(0, -2, 1)", "sheet(0, 2, 1)", "sheet(0, MIN, 1)", "sheet(0, MAX, 1)",
            "sheet(0, 0, 25)", "sheet(0, 1, 25)", "sheet(0, 0, MAX)", "sheet(3, 1, 25)");
        SOME.refuses(SIZE, "sheet(0, 0, -1)", "sheet(1, 1, -1)", "sheet(0, 1, MIN)", "sheet(3, 0, -24)");
        SOME.refuses(BAD, "sheet(4, 0, -1)", "sheet(-1, 1, -1)", "sheet(0, 2, -1)", "sheet(0, -2, -1)", "sheet(4, -1, 0)", "sheet(-1, -1, 0)");
        SOME.answers("sheet(0, 0, 0)", 0);
        SOME.answers("sheet(3, 1, 24)", 24);
        SOME.answers("sheet(3, 0, 1)", 1);
        for (String n : new String[] {"0", "1", "-1", "24", "25", "MIN", "MAX"}) {
            SOME.answers("sheet(0, -1, " + n + ")", 0);
            SOME.staysBehind(0, "sheet(3, -1, " + n + ")");
        }
    }

    private static void promise34() {
        SOME.refuses(BAD, "mark(-1, 0, 1)", "mark(4, 0, 1)", "mark(MIN, 0, 1)", "mark(MAX, 0, 1)", "mark(4, -1, NONE)", "mark(-1, 99, 100000)");
        SOME.refuses(NOTHING, "mark(3, 0, 1)", "mark(3, -1, 1)", "mark(3, 24, NONE)", "mark(3, 0, MAX)");
        SOME.refuses(INDEX, "mark(0, -1, 1)", "mark(0, 3, 1)", "mark(0, 23, 1)", "mark(0, MIN, 1)", "mark(0, MAX, 1)", "mark(1, 4, 1)", "mark(2, 0, 1)", "mark(2, -1, 1)");
        // there is no such place, so it matters no more what would come there
        SOME.refuses(INDEX, "mark(0, 3, NONE)", "mark(1, 4, NONE)", "mark(1, 4, 100000)", "mark(1, -1, MIN)", "mark(2, 0, NONE)");
        SOME.refuses(KIND, "mark(0, 0, NONE)", "mark(0, 2, NONE)");
        SOME.refuses(BAD, "mark(1, 0, 100000)", "mark(1, 0, -100000)", "mark(1, 3, MIN)", "mark(1, 3, MAX)", "mark(1, 0, -1000000004)", "mark(1, 0, -1000000006)");
        for (String good : new String[] {"0, 0, MIN", "0, 2, MAX", "0, 0, 100000", "0, 0, -1000000004", "1, 0, 99999", "1, 3, -99999", "1, 0, NONE", "1, 1, 0"}) {
            SOME.answers("mark(" + good + ")", 1);
        }
        FULL.refuses(INDEX, "mark(0, 24, 1)", "mark(1, 24, 1)");
        FULL.answers("mark(0, 23, 1)", 1);
        EMPTY.refuses(NOTHING, "mark(0, 0, 1)", "mark(1, 0, 1)", "mark(2, 0, 1)", "mark(3, 0, 1)");
    }

    private static void promise35() {
        EMPTY.refuses(BAD, "fits(0, 0)");
        SOME.refuses(BAD, "fits(-1, 0)", "fits(4, 0)", "fits(MIN, 0)", "fits(MAX, 0)", "fits(0, -1)", "fits(0, 2)", "fits(0, MIN)", "fits(0, MAX)", "fits(3, 2)", "fits(3, -1)");
        SOME.refuses(NOTHING, "fits(3, 0)", "fits(3, 1)");
        // asking changes nothing either
        SOME.staysBehind(NONE, "fits(2, 0)", "fits(2, 1)");
        SOME.staysBehind(0, "fits(0, 0)", "fits(0, 1)", "fits(1, 0)", "fits(1, 1)");
        FULL.refuses(BAD, "fits(0, 3)", "fits(4, 2)");
        FULL.staysBehind(0, "fits(0, 2)", "fits(3, 2)");
        FULL.staysBehind(23, "fits(0, 0)", "fits(1, 1)");
    }

    private static void promise36() {
        SOME.refuses(BAD, "copy(-1, 0, 0, 0, 1)", "copy(4, 0, 0, 0, 1)", "copy(0, 0, -1, 0, 1)", "copy(0, 0, 4, 0, 1)", "copy(MIN, 0, 0, 0, 1)", "copy(0, 0, MAX, 0, 1)");
        SOME.refuses(BAD, "copy(3, 0, 4, 0, 1)", "copy(4, 0, 3, 0, 1)", "copy(1, -1, 4, 0, -1)");
        SOME.refuses(NOTHING, "copy(3, 0, 0, 0, 1)", "copy(0, 0, 3, 0, 1)", "copy(3, 0, 3, 0, 0)", "copy(3, -1, 0, 0, 1)", "copy(1, 9, 3, 0, -1)");
        SOME.refuses(KIND, "copy(0, 0, 1, 0, 1)", "copy(1, 0, 0, 0, 1)", "copy(1, 0, 2, 0, 0)", "copy(0, -1, 1, 0, 1)", "copy(0, 0, 1, 9, 1)", "copy(0, 0, 1, 0, -1)");
        SOME.refuses(INDEX, "copy(0, 0, 0, 0, -1)", "copy(0, 0, 0, 0, MIN)", "copy(0, 0, 0, 0, 4)", "copy(0, 0, 0, 0, MAX)", "copy(0, -1, 0, 0, 1)", "copy(0, 0, 0, -1, 1)",
            "copy(0, 3, 0, 0, 1)", "copy(0, 0, 0, 3, 1)", "copy(0, 1, 0, 0, 3)", "copy(0, 0, 0, 1, 3)", "copy(0, MAX, 0, 0, 1)", "copy(0, 0, 0, MAX, 1)", "copy(0, MIN, 0, 0, 1)",
            "copy(0, 0, 0, MIN, 1)", "copy(0, MAX, 0, 0, MAX)", "copy(0, 1, 0, 1, MAX)", "copy(0, 0, 2, 0, 1)", "copy(2, 0, 0, 0, 1)");
        // of none: at the place behind the last one it is good, and nowhere further out
        SOME.staysBehind(0, "copy(0, 3, 0, 0, 0)", "copy(0, 0, 0, 3, 0)", "copy(0, 3, 0, 3, 0)", "copy(2, 0, 0, 3, 0)", "copy(0, 3, 2, 0, 0)", "copy(1, 4, 1, 4, 0)", "copy(0, 0, 0, 0, 0)");
        SOME.refuses(INDEX, "copy(0, 4, 0, 0, 0)", "copy(0, 0, 0, 4, 0)", "copy(0, -1, 0, 0, 0)", "copy(0, 0, 0, -1, 0)", "copy(2, 1, 0, 0, 0)", "copy(0, 0, 2, 1, 0)",
            "copy(0, MAX, 0, 0, 0)", "copy(0, 0, 0, MIN, 0)");
        SOME.staysBehind(3, "copy(0, 0, 0, 0, 3)");
        SOME.answers("copy(0, 0, 0, 1, 2)", 2);
        SOME.answers("copy(0, 2, 0, 0, 1)", 1);
        FULL.answers("copy(0, 0, 2, 0, 24)", 24);
        FULL.answers("copy(0, 23, 2, 23, 1)", 1);
        FULL.refuses(INDEX, "copy(0, 0, 2, 0, 25)", "copy(0, 1, 2, 0, 24)", "copy(0, 0, 2, 1, 24)", "copy(0, 24, 2, 0, 1)");
        FULL.staysBehind(0, "copy(0, 24, 2, 24, 0)");
        EMPTY.refuses(NOTHING, "copy(0, 0, 1, 0, 0)");
    }

    private static void promise37() {
        SOME.refuses(BAD, "lay(-1, 0, 0)", "lay(5, 0, 0)", "lay(MIN, 3, 0)", "lay(MAX, 3, 0)", "lay(0, -1, 0)", "lay(0, 4, 0)", "lay(0, MIN, 0)", "lay(0, MAX, 0)");
        SOME.refuses(BAD, "lay(0, 1, -1)", "lay(0, 1, 7)", "lay(0, 1, MIN)", "lay(0, 1, MAX)", "lay(0, 2, -1)", "lay(0, 2, 4)", "lay(0, 2, MIN)", "lay(0, 2, MAX)", "lay(5, 2, 3)");
        SOME.refuses(NOTHING, "lay(0, 2, 3)", "lay(4, 2, 3)", "lay(1, 2, 3)");
        FULL.refuses(BAD, "lay(0, 1, 16)");
        EMPTY.refuses(BAD, "lay(0, 1, 0)", "lay(5, 0, 0)");
        EMPTY.refuses(NOTHING, "lay(0, 2, 0)", "lay(4, 2, 3)");
        EMPTY.staysBehind(0, "lay(4, 0, MIN)", "lay(0, 0, MAX)");
        SOME.answers("lay(0, 0, MIN)", 1);
        SOME.answers("lay(1, 0, MAX)", 2);
        SOME.answers("lay(2, 3, MIN)", 3);
        SOME.answers("lay(4, 1, 6)", 0);
        SOME.answers("lay(4, 2, 2)", 0);
        FULL.answers("lay(4, 1, 15)", 1);
    }

    private static void promises38To40() {
        SOME.refuses(BAD, "ask(-1, 0)", "ask(5, 0)", "ask(MIN, 0)", "ask(MAX, 0)", "ask(0, -1)", "ask(0, 6)", "ask(0, MIN)", "ask(0, MAX)", "ask(4, 6)", "ask(1, -1)", "ask(2, 6)");
        SOME.refuses(NOTHING, "ask(4, 0)", "ask(4, 5)");
        SOME.refuses(KIND, "ask(1, 0)", "ask(2, 0)", "ask(3, 0)", "ask(0, 1)", "ask(0, 3)", "ask(0, 5)");
        SOME.staysBehind(2, "ask(0, 0)", "ask(0, 2)", "ask(0, 4)");

        SOME.refuses(BAD, "item(-1, 0)", "item(5, 0)", "item(MIN, 0)", "item(MAX, 0)", "item(5, -1)");
        SOME.refuses(NOTHING, "item(4, 0)", "item(4, -1)", "item(4, 24)");
        SOME.refuses(KIND, "item(0, 0)", "item(0, -1)", "item(2, 0)", "item(2, 24)", "item(1, 1)");
        SOME.refuses(INDEX, "item(1, -1)", "item(1, 4)", "item(1, MIN)", "item(1, MAX)", "item(3, 3)", "item(3, -1)");
        SOME.staysBehind(99999, "item(1, 3)");
        SOME.staysBehind(7, "item(3, 2)");
        FULL.refuses(INDEX, "item(1, 24)", "item(3, 24)");
        FULL.staysBehind(101, "item(1, 23)");

        SOME.refuses(BAD, "rest(-1, 1)", "rest(5, 1)", "rest(MIN, 1)", "rest(MAX, 1)", "rest(5, 0)", "rest(-1, 0)");
        SOME.refuses(NOTHING, "rest(4, 1)", "rest(4, 0)");
        SOME.refuses(KIND, "rest(0, 1)", "rest(0, 0)", "rest(1, 1)", "rest(1, 0)");
        SOME.refuses(NO, "rest(2, 0)");
        SOME.staysBehind(-2, "rest(2, 5)", "rest(2, -5)");
        SOME.staysBehind(0, "rest(2, 1)", "rest(2, -1)", "rest(2, 17)");
        EMPTY.refuses(NOTHING, "ask(0, 0)", "item(0, 0)", "rest(0, 0)");
    }

    private static void promises41And42() {
        FULL.refuses(TownLamps.FULL, "tell(0)", "tell(MIN)");
        new State("59 wait", x -> tellMany(x, 59)).answers("tell(MAX)", 60);
        new State("60 wait", x -> tellMany(x, 60)).refuses(TownLamps.FULL, "tell(MAX)");
        SOME.answers("tell(MIN)", 7);
        SOME.refusesBut(State.WAITING, BAD, "check(0)", "check(-1)", "check(31)", "check(MIN)", "check(MAX)");
        SOME.staysBehindBut(State.WAITING, 0, "check(3)");
        SOME.staysBehindBut(State.WAITING, 7, "check(4)", "check(30)");
        SOME.staysBehindBut(State.WAITING, 5, "check(2)");
        SOME.staysBehindBut(State.WAITING, 3, "check(1)");
        FULL.staysBehindBut(State.WAITING, 0, "check(30)");
        FULL.staysBehindBut(State.WAITING, 59, "check(29)");
        FULL.refusesBut(State.WAITING, BAD, "check(31)");
        EMPTY.refuses(NO, "check(1)", "check(30)");
        EMPTY.refuses(BAD, "check(0)", "check(31)", "check(-1)", "check(MIN)", "check(MAX)");
        State noImage = new State("3 wait, no image", x -> tellMany(x, 3));
        noImage.refusesBut(State.WAITING, NO, "check(1)", "check(30)");
        noImage.refusesBut(State.WAITING, BAD, "check(0)", "check(31)");
        for (String call : new String[] {"check(0)", "check(1)", "check(3)", "check(31)"}) {
            for (State state : new State[] {SOME, FULL, noImage}) {
                TownLamps x = state.make();
                Calls.make(x, call);
                Due.is("what waits behind " + call, x.count(11), 0);
            }
        }
    }

    private static void tellMany(TownLamps x, int many) {
        for (int i = 0; i < many; i++) {
            x.tell(i);
        }
    }

    private static void promises43To45() {
        EMPTY.refuses(NO, "back()");
        new State("no image", x -> x.hours(4)).refuses(NO, "back()");
        EMPTY.answers("keep()", 18);
        SOME.answers("keep()", 1);
        SOME.answers("back()", 23);
        for (State state : new State[] {EMPTY, SOME, FULL}) {
            state.refuses(BAD, "count(-1)", "count(13)", "count(MIN)", "count(MAX)");
        }
        int[] full = {3, 12, 16, 1, 0, 14, 8, 6, 2, 19, 0, 60, 96};
        for (int what = 0; what <= 12; what++) {
            FULL.answers("count(" + what + ")", full[what]);
        }
    }

    /** Each call with odd arguments in each place, in each state: an exception would end the test. */
    private static void noCallThrows() {
        int[] odd = {Integer.MIN_VALUE, -1000, -1, 0, 1, 3, 12, 16, 24, 100, 3030, Integer.MAX_VALUE};
        for (State state : new State[] {EMPTY, SOME, FULL}) {
            for (Method m : Calls.all()) {
                int places = m.getParameterCount();
                // five places with all twelve would be too many for a short test
                int step = places == 5 ? 3 : 1;
                int values = odd.length / step;
                int all = 1;
                for (int i = 0; i < places; i++) {
                    all *= values;
                }
                TownLamps x = state.make();
                for (int n = 0; n < all; n++) {
                    if (n % 100 == 99) {
                        x = state.make();
                    }
                    Calls.make(x, m, arguments(m, odd, step, n));
                }
                Due.holds(m.getName() + " throws nothing", true);
            }
        }
    }

    private static Object[] arguments(Method m, int[] odd, int step, int n) {
        Object[] arguments = new Object[m.getParameterCount()];
        int left = n;
        for (int i = 0; i < arguments.length; i++) {
            int v = odd[left % (odd.length / step) * step];
            left /= odd.length / step;
            arguments[i] = m.getParameterTypes()[i] == boolean.class ? (Object) (v > 0) : (Object) v;
        }
        return arguments;
    }
}
