import java.util.Arrays;
import java.util.function.Supplier;

/** Promises 41 to 45: rows, images. */
public final class RowsTest {
    private static final int BAD = TownLamps.BAD;
    private static final int NO = TownLamps.NO;
    private static final int FULL = TownLamps.FULL;
    private static final int NONE = TownLamps.NONE;
    private static final int MIN = Integer.MIN_VALUE;
    private static final int MAX = Integer.MAX_VALUE;

    public static void main(String[] args) {
        promise41();
        promise42();
        promise42ByTheImage();
        promise42BeyondTheLastDay();
        promise43And44();
        promise44Anew();
        textsOfAnImage();
        promise44KeepsOut();
        promise45();
        Due.end();
    }

    private static void tellAll(TownLamps x, int... values) {
        for (int v : values) {
            x.tell(v);
        }
    }

    private static void promise41() {
        TownLamps x = new TownLamps();
        for (int i = 1; i <= 60; i++) {
            Due.is("tell " + i, x.tell(MIN), i);
        }
        Due.is("tell 61", x.tell(0), FULL);
        Due.is("they wait", x.count(11), 60);
        x.check(1);
        Due.is("none waits", x.count(11), 0);
        Due.is("tell anew", x.tell(0), 1);
    }

    private static void promise42() {
        TownLamps y = Towns.withAll();
        y.tell(1);
        Due.is("BAD is ahead of NO", y.check(0), BAD);
        Due.is("none waits behind BAD", y.count(11), 0);
        y.tell(1);
        Due.is("no image", y.check(1), NO);
        Due.is("none waits behind NO", y.count(11), 0);
        Supplier<TownLamps> x = () -> {
            TownLamps town = Towns.withAll();
            Towns.text(town, "life 3-(k=2)");
            town.keep();
            return town;
        };
        // all cabinets: 219 in the first hour; FEAST and TUBE wear by 2; signs live 2 hours
        int[] due = {219, 0, 219, 4, 151, 7};
        check(x, 3, 0, due);
        check(x, 2, 0, 219, 0, 219, 4);
        check(x, 1, 0, 219, 0);
        check(x, 1, 3, due);
        check(x, 3, 5, 219, 0, 219, 4);
        check(x, 3, 6, 219, 0, 219, 4, 151);
        check(x, 3, 1);
        check(x, 3, 1, 218, 0, 219);
        check(x, 3, 2, 219, 1, 219, 4, 151, 7);
        check(x, 3, 3, 219, 0, 0, 4, 151, 7);
        check(x, 3, 6, 219, 0, 219, 4, 151, 6);
        check(x, 4, 0, 219, 0, 219, 4, 151, 7, 0, 7);
        check(x, 3, 7, 219, 0, 219, 4, 151, 7, 0);
        for (int n : new int[] {0, -1, 31, MAX, MIN}) {
            check(x, n, BAD, 219, 0);
        }
        int[] long30 = new int[60];
        System.arraycopy(due, 0, long30, 0, 6);
        for (int i = 7; i < 60; i += 2) {
            long30[i] = 7;
        }
        check(x, 30, 0, long30);
        check(x, 29, 59, long30);
        long30[59] = 6;
        check(x, 30, 60, long30);
    }

    /** Told values are checked by a new object: it changes nothing but what waits. */
    private static void check(Supplier<TownLamps> town, int n, int due, int... values) {
        TownLamps x = town.get();
        tellAll(x, values);
        Due.is("check(" + n + ") of " + Arrays.toString(values), x.check(n), due);
        Due.is("none waits", x.count(11), 0);
        Due.same("nothing else changes", Towns.all(x), Towns.all(town.get()));
    }

    private static void promise42ByTheImage() {
        Supplier<TownLamps> x = () -> {
            TownLamps town = Towns.withAll();
            town.hours(5);
            town.keep();
            town.hours(7);
            town.breaks(0, 0);
            town.breaks(2, 6);
            town.feast(1);
            Towns.text(town, "dim 0");
            Towns.text(town, "life 1");
            return town;
        };
        // hour 23 of day 0, then hour 0 of day 1 without the feast
        check(x, 2, 0, 219, 0, 138, 0);
        Supplier<TownLamps> y = () -> {
            TownLamps town = x.get();
            town.keep();
            return town;
        };
        check(y, 1, 0, 0, 1);
    }

    private static void promise42BeyondTheLastDay() {
        Supplier<TownLamps> x = () -> {
            TownLamps town = new TownLamps();
            for (int i = 0; i < 399; i++) {
                town.hours(60);
            }
            town.hours(41);
            town.cabinet(0, 0);
            town.joint(100, 0);
            town.lamp(4, 0, 100);
            town.feast(8);
            town.keep();
            return town;
        };
        check(x, 2, 0, 0, 0, 15, 0);
        Due.is("hours", x.get().hours(1), FULL);
    }

    private static void promise43And44() {
        Due.is("back without an image", Towns.withAll().back(), NO);
        TownLamps first = ofManyThings();
        String before = Towns.all(first);
        Due.is("keep", first.keep(), 21);
        Due.same("keep changes nothing", Towns.all(first), before);
        for (int many = 1; many <= 3; many++) {
            TownLamps x = ofManyThings();
            x.keep();
            for (int again = 0; again < many; again++) {
                changeManyThings(x);
                Due.is("back", x.back(), 21);
            }
            Due.same("all is as it was", Towns.all(x), before);
            Due.is("FEAST as it was", x.feast(7), 7);
            Due.is("the chosen as they were", x.choose(3), NO);
        }
        TownLamps y = ofManyThings();
        y.keep();
        y.hours(1);
        String later = Towns.all(y);
        Due.is("keep another", y.keep(), 22);
        y.hours(1);
        Due.is("back to the other", y.back(), 22);
        Due.same("as the other", Towns.all(y), later);
    }

    private static TownLamps ofManyThings() {
        TownLamps x = Towns.withAll();
        x.hours(3);
        x.shift(0, 1);
        x.dark(2, true);
        x.choose(0);
        x.choose(3);
        x.stop(2);
        x.stop(3);
        x.breaks(1, 1);
        x.breaks(2, 0);
        Towns.text(x, "dim 70");
        return x;
    }

    private static void changeManyThings(TownLamps x) {
        x.hours(50);
        x.shift(0, 2);
        x.shift(1, 2);
        x.feast(9);
        x.dark(1, true);
        x.dark(2, false);
        x.clear();
        x.choose(4);
        x.home();
        x.stop(0);
        x.mend(1, 1);
        x.mend(2, 0);
        x.breaks(0, 0);
        x.change(5, 0);
        x.bill(1);
        x.cabinet(5, 5);
        x.joint(3, 5);
        x.lamp(0, 4, 10);
        Towns.text(x, "dim 10");
        Towns.text(x, "law 9");
    }

    /** What comes new behind an image begins anew. */
    private static void promise44Anew() {
        TownLamps x = ofManyThings();
        x.keep();
        Due.is("a cabinet", x.cabinet(1, 102), 2);
        x.shift(2, 3);
        x.breaks(0, 2);
        Due.is("a joint", x.joint(102, 3), 4);
        x.breaks(1, 4);
        Due.is("a lamp", x.lamp(2, 4, 100), 7);
        x.mend(0, 2);
        x.mend(1, 4);
        x.hours(2);
        Due.is("it burns", x.told(7, 4), 2);
        Due.is("it is paid", x.cabinetTold(2, 8), 100);
        x.breaks(0, 2);
        x.breaks(1, 4);
        x.breaks(2, 7);
        x.dark(7, true);
        x.back();
        x.cabinet(1, 102);
        x.joint(102, 3);
        x.lamp(2, 4, 100);
        Due.is("SHIFT anew", x.cabinetTold(2, 3), 0);
        Due.is("cabinet not BROKEN", x.cabinetTold(2, 5), 0);
        Due.is("PAID anew", x.cabinetTold(2, 8), 0);
        Due.is("joint not BROKEN", x.jointTold(4, 3), 0);
        Due.is("not OUT", x.told(7, 5), 0);
        Due.is("not BURNT", x.told(7, 4), 0);
        Due.is("not DARK", x.told(7, 12), 0);
    }

    private static void textsOfAnImage() {
        TownLamps x = Towns.withAll();
        Towns.text(x, "dim 50");
        x.keep();
        Due.is("a text", Towns.text(x, "dim 10"), 1);
        Due.is("counts", x.told(1, 9), 4);
        x.back();
        Due.is("the earlier one counts", x.told(1, 9), 20);
        Due.is("why", x.why(0), 0);
        Due.is("texts", x.count(5), 1);
        Due.is("another text", Towns.text(x, "law 99+1"), 1);
        Due.is("its KEY", x.textTold(1, 0), 3);
        Due.is("dim still", x.told(1, 9), 20);
        x.keep();
        Towns.text(x, "law 0");
        Due.is("law 0", x.tooDark(), 0);
        x.back();
        Due.is("law 100", x.tooDark(), 15);
        for (int i = 2; i < 14; i++) {
            Due.is("text " + i, Towns.text(x, "life 9"), i);
        }
        Due.is("full", Towns.text(x, "life 9"), FULL);
        x.back();
        Due.is("no life", x.why(1), NONE);
        Due.is("room again", Towns.text(x, "life 9"), 2);
    }

    private static void promise44KeepsOut() {
        TownLamps x = Towns.withAll();
        x.sheet(0, 0, 2);
        x.lay(0, 3, 5);
        x.tell(1);
        x.feed(0, 0, 0);
        x.keep();
        x.mark(0, 1, 8);
        x.sheet(1, 1, 3);
        x.lay(0, 2, 0);
        x.lay(1, 3, 7);
        x.tell(2);
        x.feed(0, 0, 0);
        x.back();
        Due.is("sheets stay", x.mark(1, 2, 0), 1);
        Due.is("slots stay", x.item(0, 1), 8);
        Due.is("slots stay, too", x.rest(1, 10), 7);
        Due.is("numbers still wait", x.count(11), 2);
        Due.is("the tape stays", x.count(12), 24);
    }

    private static void promise45() {
        TownLamps x = Towns.withAll();
        x.breaks(0, 1);
        x.breaks(1, 1);
        x.breaks(1, 2);
        x.breaks(2, 4);
        x.breaks(2, 5);
        x.dark(0, true);
        x.dark(1, true);
        x.dark(2, true);
        x.dark(3, true);
        x.hours(30);
        Towns.text(x, "law 0");
        for (int i = 0; i < 5; i++) {
            x.choose(i);
            x.tell(i);
        }
        x.tell(6);
        x.stop(0);
        x.stop(1);
        x.stop(2);
        x.feed(0, 0, 0);
        x.trim(7);
        int[] due = {2, 4, 7, 2, 3, 1, 5, 3, 4, 0, 2, 6, 7};
        for (int what = 0; what < due.length; what++) {
            Due.is("count(" + what + ")", x.count(what), due[what]);
        }
        for (int what : new int[] {-1, 13, MAX, MIN}) {
            Due.is("count(" + what + ")", x.count(what), BAD);
        }
        x.breaks(0, 0);
        Due.is("BROKEN with cabinet 0", x.count(4), 4);
        x.breaks(1, 0);
        Due.is("BROKEN with joint 0", x.count(4), 5);
        x.breaks(2, 0);
        Due.is("OUT with lamp 0", x.count(3), 3);
    }
}
