import java.util.ArrayList;
import java.util.List;
import java.util.function.BiConsumer;
import java.util.function.Consumer;

/**
 * A state that objects can be brought to again and again, and all that can be told of it. Some of
 * it can only be told by calls that change the object, so it is told in parts, each of an object
 * of its own; no object gets more than the 512 calls that the document promises.
 */
final class State {
    /** The parts that a refused call may change all the same. */
    static final String TAPE = "tape";
    static final String WAITING = "waiting";

    private final String name;
    private final Consumer<TownLamps> build;
    private final List<String> expected = new ArrayList<>();

    State(String name, Consumer<TownLamps> build) {
        this.name = name;
        this.build = build;
        for (Part part : Part.values()) {
            expected.add(part.tell(make()));
        }
    }

    TownLamps make() {
        TownLamps x = new TownLamps();
        build.accept(x);
        return x;
    }

    /** A call answers what is due in this state. */
    void answers(String call, int due) {
        Due.is(name + ": " + call, Calls.make(make(), call), due);
    }

    /** Calls are refused with what is due, and change nothing. */
    void refuses(int due, String... calls) {
        staysBehindBut("", due, calls);
    }

    /** Calls are refused, and change nothing but a part. */
    void refusesBut(String but, int due, String... calls) {
        staysBehindBut(but, due, calls);
    }

    /** Calls are no refusals, but change nothing either. */
    void staysBehind(int due, String... calls) {
        staysBehindBut("", due, calls);
    }

    void staysBehindBut(String but, int due, String... calls) {
        for (String call : calls) {
            for (Part part : Part.values()) {
                TownLamps x = make();
                Due.is(name + ": " + call, Calls.make(x, call), due);
                if (!part.name().equalsIgnoreCase(but)) {
                    Due.same(name + ": " + part + " behind " + call, part.tell(x), expected.get(part.ordinal()));
                }
            }
        }
    }

    private enum Part {
        COUNTS(State::counts), CABINETS(State::cabinets), JOINTS(State::joints), LAMPS(State::lamps), LAWS(State::laws),
        FEAST((x, s) -> s.append(x.feast(5))), SLOTS(State::slots), ROWS(State::rows), WAITING(State::waiting),
        TAPE(State::tape), IMAGE(State::image);

        private final BiConsumer<TownLamps, StringBuilder> tale;

        Part(BiConsumer<TownLamps, StringBuilder> tale) {
            this.tale = tale;
        }

        String tell(TownLamps x) {
            StringBuilder s = new StringBuilder();
            tale.accept(x, s);
            return s.toString();
        }
    }

    private static void counts(TownLamps x, StringBuilder s) {
        // what waits and the tape have parts of their own
        for (int what = 0; what <= 10; what++) {
            s.append(x.count(what)).append(' ');
        }
    }

    private static void cabinets(TownLamps x, StringBuilder s) {
        int stops = x.count(7);
        for (int i = x.count(0) - 1; i >= 0; i--) {
            for (int what = 0; what <= 8; what++) {
                s.append(x.cabinetTold(i, what)).append(' ');
            }
            for (int what = -1; what < stops; what++) {
                s.append(x.round(i, what)).append(' ');
            }
            s.append(x.blame(0, i)).append('\n');
        }
    }

    private static void joints(TownLamps x, StringBuilder s) {
        for (int i = x.count(1) - 1; i >= 0; i--) {
            for (int what = 0; what <= 4; what++) {
                s.append(x.jointTold(i, what)).append(' ');
            }
            s.append(x.blame(1, i)).append('\n');
        }
    }

    private static void lamps(TownLamps x, StringBuilder s) {
        for (int i = x.count(2) - 1; i >= 0; i--) {
            for (int what = 0; what <= 12; what++) {
                s.append(x.told(i, what)).append(' ');
            }
            s.append('\n');
        }
    }

    private static void laws(TownLamps x, StringBuilder s) {
        for (int i = x.count(2) - 1; i >= 0; i--) {
            s.append(x.blame(2, i)).append(' ');
        }
        for (int i = x.count(5) - 1; i >= 0; i--) {
            s.append(x.textTold(i, 0)).append(' ').append(x.textTold(i, 1)).append('\n');
        }
        for (int i = 0; i < 4; i++) {
            s.append(x.why(i)).append(' ').append(x.light(i)).append(' ');
        }
        s.append(x.tooDark()).append(' ').append(x.blames());
        for (int v = 0; v < 40; v++) {
            s.append(' ').append(x.guess(v));
        }
        // who is told for guesses and the round can only be told by telling them again
        for (int i = x.count(2) - 1; i >= 0; i--) {
            s.append(' ').append(x.choose(i));
        }
        for (int i = x.count(1) - 1; i >= 0; i--) {
            s.append(' ').append(x.stop(i));
        }
    }

    private static void slots(TownLamps x, StringBuilder s) {
        for (int slot = 0; slot < 5; slot++) {
            for (int kind = 0; kind < 6; kind++) {
                s.append(x.ask(slot, kind)).append(' ');
            }
            s.append(x.rest(slot, 1000000007)).append(' ');
            row(x, slot, s);
            s.append(x.lay(slot, 0, 0)).append('\n');
        }
    }

    private static void rows(TownLamps x, StringBuilder s) {
        for (int sheet = 0; sheet < 4; sheet++) {
            s.append(x.lay(0, 2, sheet) == TownLamps.NOTHING ? "missing" : "there").append(' ');
            row(x, 0, s);
            // tells its sort
            s.append(x.mark(sheet, 0, TownLamps.NONE)).append('\n');
        }
    }

    private static void row(TownLamps x, int slot, StringBuilder s) {
        int v = 0;
        for (int place = 0; place <= 24 && v != TownLamps.INDEX && v != TownLamps.NOTHING; place++) {
            v = x.item(slot, place);
            s.append(v).append(' ');
        }
    }

    /** The states tell right numbers of as many hours as they tell, so a change is found by check. */
    private static void waiting(TownLamps x, StringBuilder s) {
        int many = x.count(11);
        s.append(many).append(' ').append(x.check(Math.max(1, many / 2)));
    }

    private static void tape(TownLamps x, StringBuilder s) {
        s.append(x.count(12)).append(' ').append(x.text()).append(' ');
        laws(x, s);
    }

    private static void image(TownLamps x, StringBuilder s) {
        s.append(x.back()).append(' ').append(x.feast(5)).append(' ');
        counts(x, s);
        for (int i = x.count(2) - 1; i >= 0; i--) {
            s.append(x.told(i, 0)).append(' ').append(x.told(i, 4)).append(' ').append(x.told(i, 12)).append(' ');
        }
        cabinets(x, s);
    }
}
