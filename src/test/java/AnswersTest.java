/** Promises 16 and 17: got, told. */
public final class AnswersTest {
    public static void main(String[] args) {
        got();
        gotRefuses();
        told();
        toldOfReads();
        toldRefuses();
        Check.end();
    }

    private static void got() {
        PacketRows x = new PacketRows(3, 1);
        x.grid(0, 1, 2, 2, 2);
        x.choose(0, 1, 1, 1, 2);
        x.zero(9);
        x.passes(1, 17, 1234);
        x.passes(2, 1, 0);
        for (int layer = 0; layer < 3; layer++) {
            Check.got("nothing was read", x, layer, 0, 0, 0, -1);
        }
        x.choose(0, 1, 1, 1, 3);
        x.zero(4);
        x.write();
        x.read();
        // Its zero planes are told of no head, as it has no passes.
        Check.got("no passes", x, 0, 0, 0, 0, -1);
        x.choose(0, 1, 1, 1, 2);
        Check.got("layer 0", x, 0, 0, 0, 9, 1);
        Check.got("layer 1", x, 1, 17, 1234, 9, 1);
        Check.got("layer 2", x, 2, 1, 0, 9, 1);
        x.passes(1, 0, 0);
        x.zero(1);
        x.wipe();
        x.part(0, 1, 1, 1);
        x.component();
        Check.got("what was read last stays", x, 1, 17, 1234, 9, 1);
        x.choose(1, 1, 0, 0, 0);
        Check.got("a new component", x, 1, 0, 0, 0, -1);
        // A part that ends before: what is not in it is not read.
        x.write();
        x.read();
        x.choose(0, 1, 1, 1, 2);
        Check.got("in no part", x, 1, 0, 0, 0, -1);
    }

    private static void gotRefuses() {
        PacketRows x = new PacketRows(2, 0);
        int[] wrong = {-1, 4, Integer.MAX_VALUE, Integer.MIN_VALUE};
        for (int w : wrong) {
            Check.outOfBounds("layer " + w, () -> x.got(w, 0));
            Check.outOfBounds("layer " + w + " of zero planes", () -> x.got(w, 2));
            Check.outOfBounds("layer " + w + " of the first", () -> x.got(w, 3));
            Check.outOfBounds("what " + w, () -> x.got(0, w));
            Check.outOfBounds("both " + w, () -> x.got(w, w));
        }
        Check.outOfBounds("layer 2 of 2", () -> x.got(2, 3));
    }

    private static void told() {
        PacketRows x = new PacketRows(2, 1);
        Check.due("told(0)", x.told(0), 0);
        Check.due("told(1)", x.told(1), 4);
        x.feed(4, 9);
        x.component();
        x.grid(1, 1, 2, 2, 1);
        x.part(1, 1, 1, 1);
        x.part(2, 2, 2, 2);
        Check.due("told(0)", x.told(0), 4);
        Check.due("told(1)", x.told(1), 4 + 1 + 12);
        Check.due("told(2)", x.told(2), 2);
        Check.due("told(3)", x.told(3), 2);
    }

    private static void toldOfReads() {
        PacketRows x = new PacketRows(1, 0);
        Check.due("before read(): told(4)", x.told(4), 0);
        Check.due("before read(): told(5)", x.told(5), 0);
        x.feed(4, 0xE0);
        Check.reads("good", x, 1, 0, 1);
        x.wipe();
        x.write();
        x.zero(3);
        x.grid(0, 0, 1, 1, 1);
        Check.due("of the last read(): told(5)", x.told(5), 1);
        x.wipe();
        Check.reads("fault 1", x, -1, 1, 0);
        x.feed(2, 0xFFFF);
        Check.due("of the last read(): told(4)", x.told(4), 1);
        Check.reads("fault 2", x, -1, 2, 0);
        Check.bytes(x, 192, 0, 0, 0, 0);
        Check.reads("fault 3", x, -1, 3, 0);
        Check.bytes(x, 0);
        Check.reads("good again", x, 1, 0, 1);
    }

    private static void toldRefuses() {
        PacketRows x = new PacketRows(1, 0);
        for (int what : new int[] {-1, 6, 7, Integer.MAX_VALUE, Integer.MIN_VALUE}) {
            Check.outOfBounds("told(" + what + ")", () -> x.told(what));
        }
    }
}
