/** Promises 5 and 6: passes, zero. */
public final class TellingTest {
    public static void main(String[] args) {
        passes();
        passesRefuses();
        noPassesNoBytes();
        zero();
        zeroRefuses();
        Check.end();
    }

    private static void passes() {
        PacketRows x = new PacketRows(8, 0);
        for (int layer = 0; layer < 8; layer++) {
            x.passes(layer, 1 + layer * 23, 65535 - layer * 9000);
        }
        x.write();
        Check.due("read()", x.read(), 8);
        for (int layer = 0; layer < 8; layer++) {
            Check.got("passes", x, layer, 1 + layer * 23, 65535 - layer * 9000, 0, 0);
        }
        x.passes(3, 164, 65535);
        x.passes(4, 0, 0);
        x.passes(5, 1, 0);
        Check.got("told is not read", x, 3, 70, 38535, 0, 0);
        x.write();
        x.read();
        Check.got("told anew", x, 3, 164, 65535, 0, 0);
        Check.got("told anew", x, 4, 0, 0, 0, 0);
        Check.got("told anew", x, 5, 1, 0, 0, 0);
        Check.got("told before", x, 6, 139, 11535, 0, 0);
    }

    private static void passesRefuses() {
        PacketRows x = new PacketRows(2, 0);
        x.passes(0, 2, 3);
        x.write();
        int[] noLayer = {-1, 2, 8, Integer.MAX_VALUE, Integer.MIN_VALUE};
        for (int w : noLayer) {
            Check.outOfBounds("passes layer " + w, () -> x.passes(w, 1, 1));
            Check.outOfBounds("passes, all wrong " + w, () -> x.passes(w, -1, -1));
        }
        int[] noPasses = {-1, 165, Integer.MAX_VALUE, Integer.MIN_VALUE};
        for (int w : noPasses) {
            Check.illegal("passes " + w, () -> x.passes(0, w, 1));
        }
        int[] noBytes = {-1, 65536, Integer.MAX_VALUE, Integer.MIN_VALUE};
        for (int w : noBytes) {
            Check.illegal("bytes " + w, () -> x.passes(0, 1, w));
        }
        Check.due("nothing was told since", x.packet(0, 4), 0);
        x.write();
        x.read();
        Check.got("what was told stays", x, 0, 2, 3, 0, 0);
    }

    private static void noPassesNoBytes() {
        PacketRows x = new PacketRows(1, 0);
        x.passes(0, 1, 9);
        x.passes(0, 0, 9);
        Check.heads("without passes", x, "0");
        Check.reads("without passes", x, 1, 0, 1);
        Check.got("without passes", x, 0, 0, 0, 0, -1);
        x.passes(0, 1, 0);
        Check.heads("passes without bytes", x, "1 1 1 0 0 000");
    }

    private static void zero() {
        PacketRows x = new PacketRows(1, 0);
        x.passes(0, 1, 0);
        StringBuilder planes = new StringBuilder();
        for (int zero = 0; zero <= 30; zero++) {
            x.zero(zero);
            Check.heads("zero " + zero, x, "1 1 " + planes + "1 0 0 000");
            Check.due("read()", x.read(), 1);
            Check.got("zero " + zero, x, 0, 1, 0, zero, 0);
            planes.append('0');
        }
    }

    private static void zeroRefuses() {
        PacketRows x = new PacketRows(1, 0);
        x.passes(0, 1, 0);
        x.zero(7);
        x.write();
        int[] wrong = {-1, 31, Integer.MAX_VALUE, Integer.MIN_VALUE};
        for (int w : wrong) {
            Check.illegal("zero " + w, () -> x.zero(w));
        }
        Check.due("nothing was told since", x.packet(0, 4), 0);
        x.write();
        x.read();
        Check.got("what was told stays", x, 0, 1, 0, 7, 0);
    }
}
