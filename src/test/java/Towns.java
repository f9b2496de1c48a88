import java.nio.charset.StandardCharsets;

/** Short ways to bring a town into a state, and to tell all of it. */
final class Towns {
    private Towns() {
    }

    /** A cabinet at 0, 0 with a night of 18 to 6, and a joint 0 that it feeds at 1, 1. */
    static TownLamps withJoint() {
        TownLamps x = new TownLamps();
        x.cabinet(0, 1806);
        x.joint(100, 101);
        return x;
    }

    /** Two cabinets, of which 1 has no night; a chain of joints 0, 1, 2 and one joint 3 of cabinet 1; a lamp of each kind. */
    static TownLamps withAll() {
        TownLamps x = new TownLamps();
        x.cabinet(0, 1806);
        x.cabinet(3030, 1212);
        x.joint(100, 100);
        x.joint(0, 200);
        x.joint(1, 300);
        x.joint(101, 3000);
        x.lamp(0, 0, 500);
        x.lamp(1, 1, 411);
        x.lamp(2, 1, 332);
        x.lamp(3, 2, 903);
        x.lamp(4, 2, 210);
        x.lamp(5, 2, 101);
        x.lamp(2, 3, 252);
        return x;
    }

    static byte[] bytes(String s) {
        return s.getBytes(StandardCharsets.ISO_8859_1);
    }

    /** THE TAPE becomes these bytes. */
    static void tape(TownLamps x, byte[] bytes) {
        x.trim(0);
        for (int i = 0; i < bytes.length; i += 12) {
            x.feed(four(bytes, i), four(bytes, i + 4), four(bytes, i + 8));
        }
        x.trim(bytes.length);
    }

    private static int four(byte[] bytes, int from) {
        int v = 0;
        for (int i = from; i < from + 4; i++) {
            v = v << 8 | (i < bytes.length ? bytes[i] & 255 : 0);
        }
        return v;
    }

    static int text(TownLamps x, String s) {
        tape(x, bytes(s));
        return x.text();
    }

    /** All that can be told without a change, but for sheets and slots. */
    static String all(TownLamps x) {
        StringBuilder s = new StringBuilder();
        for (int what = 0; what <= 12; what++) {
            s.append(x.count(what)).append(' ');
        }
        for (int i = 0; i < x.count(0); i++) {
            for (int what = 0; what <= 8; what++) {
                s.append(x.cabinetTold(i, what)).append(' ');
            }
            for (int what = -1; what < x.count(7); what++) {
                s.append(x.round(i, what)).append(' ');
            }
            s.append(x.blame(0, i)).append('\n');
        }
        for (int i = 0; i < x.count(1); i++) {
            for (int what = 0; what <= 4; what++) {
                s.append(x.jointTold(i, what)).append(' ');
            }
            s.append(x.blame(1, i)).append('\n');
        }
        for (int i = 0; i < x.count(2); i++) {
            for (int what = 0; what <= 12; what++) {
                s.append(x.told(i, what)).append(' ');
            }
            s.append(x.blame(2, i)).append('\n');
        }
        for (int i = 0; i < x.count(5); i++) {
            s.append(x.textTold(i, 0)).append(' ').append(x.textTold(i, 1)).append('\n');
        }
        for (int i = 0; i < 4; i++) {
            s.append(x.why(i)).append(' ').append(x.light(i)).append(' ');
        }
        return s.append(x.tooDark()).append(' ').append(x.blames()).append(' ').append(x.guess(50)).toString();
    }
}
