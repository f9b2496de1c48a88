/** The states in which calls are refused: nothing there, some of all, all that can be, the last hours. */
final class States {
    static final State EMPTY = new State("empty", x -> { });
    static final State SOME = new State("some", States::some);
    static final State FULL = new State("full", States::full);
    static final State LAST_HOUR = new State("last hour", x -> late(x, 41));
    static final State LAST_BUT_ONE = new State("last hour but one", x -> late(x, 40));

    private States() {
    }

    /**
     * Two cabinets, five joints, seven lamps, four texts, an image that is not as now; sheet 0 of
     * shorts, 1 of floats, 2 without places, 3 missing; slot 0 a lamp, 1 and 3 sheets, 2 a number.
     */
    private static void some(TownLamps x) {
        someOfTheImage(x);
        x.keep();
        x.hours(2);
        x.dark(5, true);
        x.breaks(0, 1);
        x.choose(5);
        x.stop(0);
        x.feast(2);
        Towns.text(x, "dim 33");
        someSheets(x);
        tellHours(x, Told.SOME_HOURS);
        Towns.tape(x, Towns.bytes("law 40+c"));
    }

    private static void someOfTheImage(TownLamps x) {
        x.cabinet(505, 1806);
        x.cabinet(3030, 620);
        x.shift(1, 2);
        x.joint(100, 510);
        x.joint(0, 1010);
        x.joint(0, 1505);
        x.joint(101, 2525);
        x.joint(3, 2500);
        x.lamp(0, 0, 500);
        x.lamp(1, 1, 401);
        x.lamp(2, 1, 312);
        x.lamp(3, 2, 903);
        x.lamp(4, 2, 200);
        x.lamp(5, 0, 100);
        x.lamp(0, 3, 250);
        x.feast(3);
        Towns.text(x, "dim 60+c");
        Towns.text(x, "law 45");
        Towns.text(x, "price h+1");
        x.hours(5);
        x.breaks(1, 2);
        x.breaks(2, 0);
        x.dark(1, true);
        x.dark(3, true);
        x.choose(2);
        x.choose(4);
        x.choose(1);
        x.stop(3);
        x.stop(1);
    }

    private static void someSheets(TownLamps x) {
        x.sheet(0, 0, 3);
        x.mark(0, 0, 5);
        x.mark(0, 1, -6);
        x.mark(0, 2, 7);
        x.sheet(1, 1, 4);
        x.mark(1, 0, 1);
        x.mark(1, 1, TownLamps.NONE);
        x.mark(1, 3, 99999);
        x.sheet(2, 0, 0);
        x.lay(0, 1, 4);
        x.lay(1, 2, 1);
        x.lay(2, 3, -17);
        x.lay(3, 2, 0);
    }

    /** As many of all as there may be. Joints 0 to 11 feed on one another; lamps 0 to 7 are told for guesses, joints 0 to 5 for the round. */
    private static void full(TownLamps x) {
        fullOfTheImage(x);
        x.keep();
        x.dark(15, true);
        x.hours(1);
        for (int sheet = 0; sheet < 4; sheet++) {
            x.sheet(sheet, sheet % 2, 24);
            x.mark(sheet, 23, 100 + sheet);
        }
        x.lay(0, 1, 15);
        x.lay(1, 2, 1);
        x.lay(2, 3, Integer.MAX_VALUE);
        x.lay(3, 2, 2);
        x.lay(4, 1, 4);
        tellHours(x, Told.FULL_HOURS);
        Towns.tape(x, Towns.bytes("law 1" + "+1".repeat(45) + " "));
    }

    private static void fullOfTheImage(TownLamps x) {
        x.cabinet(0, 1806);
        x.cabinet(1515, 22);
        x.cabinet(3030, 1212);
        x.joint(102, 3030);
        for (int i = 1; i < 12; i++) {
            x.joint(i - 1, 100 * i + i);
        }
        for (int i = 0; i < 16; i++) {
            x.lamp(i % 6, i % 12, 10 * (90 + i % 10) + i % 4);
        }
        for (int i = 0; i < 14; i++) {
            Towns.text(x, i == 0 ? "dim 50+c" : "law " + i);
        }
        for (int i = 0; i < 8; i++) {
            x.choose(i);
        }
        for (int i = 0; i < 6; i++) {
            x.stop(i);
        }
        x.dark(2, true);
        x.breaks(2, 4);
    }

    /** The day 998 at 6, and so many hours more, with one lamp. */
    private static void late(TownLamps x, int more) {
        for (int i = 0; i < 399; i++) {
            x.hours(60);
        }
        x.cabinet(0, 1806);
        x.joint(100, 0);
        x.lamp(0, 0, 100);
        x.keep();
        x.hours(more);
    }

    private static void tellHours(TownLamps x, int[] told) {
        for (int v : told) {
            x.tell(v);
        }
    }

    /** The hours told of the images, by way of cabinetTold and hours, not by check. */
    private static final class Told {
        static final int[] SOME_HOURS = hoursOf(States::someOfTheImage, 3);
        static final int[] FULL_HOURS = hoursOf(States::fullOfTheImage, 30);

        private static int[] hoursOf(java.util.function.Consumer<TownLamps> build, int n) {
            TownLamps x = new TownLamps();
            build.accept(x);
            int[] told = new int[2 * n];
            for (int i = 0; i < n; i++) {
                for (int c = x.count(0) - 1; c >= 0; c--) {
                    told[2 * i] += x.cabinetTold(c, 7);
                }
                x.hours(1);
                told[2 * i + 1] = x.count(3);
            }
            return told;
        }
    }
}
