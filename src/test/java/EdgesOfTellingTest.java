/** The edges that sentences of the document name, a method for each: promises 5 and 6. */
public final class EdgesOfTellingTest {
    private static final int MIN = Integer.MIN_VALUE;
    private static final int MAX = Integer.MAX_VALUE;

    public static void main(String[] args) {
        passesFromLeastToMost();
        bytesFromLeastToMost();
        withoutPassesThereAreNoBytes();
        passesTakenBack();
        passesOfTheChosenBlockInALayer();
        noSuchLayer();
        passesThatAreNotSuch();
        bytesThatAreNotSuch();
        passesWithBothWrong();
        zerosFromLeastToMost();
        zerosOfTheChosenBlock();
        zerosThatAreNotSuch();
        Check.end();
    }

    private static void told(String name, PacketRows x, int layer, int passes, int bytes) {
        x.passes(layer, passes, bytes);
        x.write();
        Check.due(name + ": read()", x.read(), x.packets());
        Check.due(name + ": passes", x.got(layer, 0), passes);
        Check.due(name + ": bytes", x.got(layer, 1), bytes);
    }

    /** "PASSES 0 to 164". */
    private static void passesFromLeastToMost() {
        PacketRows x = new PacketRows(2, 0);
        for (int passes : new int[] {0, 1, 2, 163, 164}) {
            told(passes + " passes", x, 1, passes, 0);
            Check.due(passes + " passes: the first layer", x.got(1, 3), passes == 0 ? -1 : 1);
        }
    }

    /** "where these are not 0, BYTES 0 to 65535". */
    private static void bytesFromLeastToMost() {
        for (int passes : new int[] {1, 164}) {
            PacketRows x = new PacketRows(2, 0);
            for (int bytes : new int[] {0, 1, 2, 65534, 65535}) {
                told(bytes + " bytes", x, 0, passes, bytes);
                told(bytes + " bytes", x, 1, passes, bytes);
            }
        }
    }

    /** "(without passes there are no bytes)": bytes that are such are taken, and are none. */
    private static void withoutPassesThereAreNoBytes() {
        for (int bytes : new int[] {0, 1, 65535}) {
            PacketRows x = new PacketRows(2, 0);
            x.passes(0, 0, bytes);
            Check.heads("no passes", x, "0", "0");
            x.read();
            Check.got("no passes", x, 0, 0, 0, 0, -1);
            x.passes(1, 1, 1);
            x.passes(1, 0, bytes);
            Check.heads("passes taken back", x, "0", "0");
            x.passes(1, 1, 0);
            Check.heads("one pass without bytes", x, "0", "1 01 1 0 0 000");
        }
        PacketRows x = new PacketRows(1, 0);
        x.passes(0, 1, 6);
        x.write();
        Check.illegal("no passes, bytes -1", () -> x.passes(0, 0, -1));
        Check.illegal("no passes, bytes 65536", () -> x.passes(0, 0, 65536));
        Check.due("nothing was told", x.packet(0, 4), 0);
        Check.heads("passes stay", x, "1 1 1 0 0 110");
    }

    /** Passes of 0 in the first layer: the next layer with passes is the first one then. */
    private static void passesTakenBack() {
        PacketRows x = new PacketRows(3, 0);
        x.passes(0, 1, 1);
        x.passes(1, 1, 2);
        x.passes(2, 1, 3);
        Check.heads("all", x, "1 1 1 0 0 001", "1 1 0 0 010", "1 1 0 0 011");
        x.passes(0, 0, 0);
        Check.heads("from layer 1", x, "0", "1 01 1 0 0 010", "1 1 0 0 011");
        x.passes(1, 0, 0);
        Check.heads("from layer 2", x, "0", "0", "1 001 1 0 0 011");
        x.passes(2, 0, 0);
        Check.heads("none", x, "0", "0", "0");
    }

    /** "PASSES and BYTES of the chosen block in a layer": of no other block, in no other layer. */
    private static void passesOfTheChosenBlockInALayer() {
        PacketRows x = new PacketRows(3, 0);
        x.grid(0, 0, 1, 3, 1);
        x.choose(0, 0, 0, 0, 1);
        x.passes(1, 9, 99);
        x.write();
        x.read();
        for (int block = 0; block < 3; block++) {
            x.choose(0, 0, 0, 0, block);
            for (int layer = 0; layer < 3; layer++) {
                boolean it = block == 1 && layer == 1;
                Check.got("block " + block, x, layer, it ? 9 : 0, it ? 99 : 0, 0,
                        block == 1 ? 1 : -1);
            }
        }
    }

    /** "IndexOutOfBoundsException: there is no such layer". */
    private static void noSuchLayer() {
        for (int layers = 1; layers <= 8; layers++) {
            PacketRows x = new PacketRows(layers, 0);
            x.passes(0, 1, 1);
            x.passes(layers - 1, 1, 1);
            x.write();
            for (int w : new int[] {-1, layers, 8, 9, MIN, MAX}) {
                Check.outOfBounds("layer " + w + " of " + layers, () -> x.passes(w, 1, 1));
            }
            Check.due("nothing was told", x.packet(0, 4), 0);
        }
    }

    /** "IllegalArgumentException: the others are not such": passes. */
    private static void passesThatAreNotSuch() {
        PacketRows x = new PacketRows(1, 0);
        x.passes(0, 164, 7);
        x.write();
        for (int w : new int[] {-1, 165, -2, 166, 256, MIN, MAX}) {
            Check.illegal("passes " + w, () -> x.passes(0, w, 0));
        }
        Check.due("nothing was told", x.packet(0, 4), 0);
        x.write();
        x.read();
        Check.got("as before", x, 0, 164, 7, 0, 0);
    }

    /** "IllegalArgumentException: the others are not such": bytes. */
    private static void bytesThatAreNotSuch() {
        PacketRows x = new PacketRows(1, 0);
        x.passes(0, 1, 65535);
        x.write();
        for (int w : new int[] {-1, 65536, -2, 65537, 1 << 24, MIN, MAX}) {
            Check.illegal("bytes " + w, () -> x.passes(0, 1, w));
        }
        Check.due("nothing was told", x.packet(0, 4), 0);
        x.write();
        x.read();
        Check.got("as before", x, 0, 1, 65535, 0, 0);
    }

    /** Both exceptions are due at once: there is no layer whose passes could be looked at. */
    private static void passesWithBothWrong() {
        PacketRows x = new PacketRows(1, 0);
        Check.outOfBounds("passes(1, 165, 0)", () -> x.passes(1, 165, 0));
        Check.outOfBounds("passes(-1, 1, 65536)", () -> x.passes(-1, 1, 65536));
        Check.outOfBounds("passes(-1, -1, -1)", () -> x.passes(-1, -1, -1));
    }

    /** "ZERO planes 0 to 30". */
    private static void zerosFromLeastToMost() {
        PacketRows x = new PacketRows(1, 0);
        x.passes(0, 1, 7);
        for (int planes : new int[] {0, 1, 29, 30}) {
            x.zero(planes);
            Check.heads("zero(" + planes + ")", x, "1 1 " + "0".repeat(planes) + "1 0 0 111");
            Check.due("read()", x.read(), 1);
            Check.got("zero(" + planes + ")", x, 0, 1, 7, planes, 0);
        }
    }

    /** "ZERO planes of the chosen block". */
    private static void zerosOfTheChosenBlock() {
        PacketRows x = new PacketRows(1, 1);
        x.grid(0, 1, 2, 2, 1);
        int[][] all = {{0, 0, 0}, {0, 0, 1}, {0, 2, 0}, {1, 0, 0}, {1, 2, 1}};
        for (int i = 0; i < all.length; i++) {
            x.choose(0, 1, all[i][0], all[i][1], all[i][2]);
            x.passes(0, 1, 0);
            x.zero(4 + i);
        }
        x.write();
        x.read();
        for (int i = 0; i < all.length; i++) {
            x.choose(0, 1, all[i][0], all[i][1], all[i][2]);
            Check.got("its own", x, 0, 1, 0, 4 + i, 0);
        }
    }

    /** "IllegalArgumentException: they are not 0 to 30". */
    private static void zerosThatAreNotSuch() {
        PacketRows x = new PacketRows(1, 0);
        x.passes(0, 1, 0);
        for (int planes : new int[] {0, 30}) {
            x.zero(planes);
            x.write();
            for (int w : new int[] {-1, 31, -2, 32, 1000, MIN, MAX}) {
                Check.illegal("zero(" + w + ")", () -> x.zero(w));
            }
            Check.due("nothing was told", x.packet(0, 4), 0);
            x.write();
            x.read();
            Check.got("as before", x, 0, 1, 0, planes, 0);
        }
    }
}
