/** The edges that sentences of the document name, a method for each: promises 16 and 17. */
public final class EdgesOfAnswersTest {
    private static final int MIN = Integer.MIN_VALUE;
    private static final int MAX = Integer.MAX_VALUE;

    public static void main(String[] args) {
        constantNone();
        ofTheChosenBlock();
        whatWasReadLast();
        passesAndBytesInALayer();
        zerosAndFirstOfAnyLayer();
        firstLayerWithPasses();
        noneWithoutPasses();
        nothingWasRead();
        gotOfNoSuchLayer();
        gotOfNoSuchWhat();

        toldBytes();
        toldBlocks();
        toldParts();
        toldComponents();
        toldFault();
        toldHowManyBytesItWentOver();
        toldOfAnotherWhat();
        Check.end();
    }

    /** "NONE = -1". */
    private static void constantNone() {
        Check.due("NONE", PacketRows.NONE, -1);
    }

    /** "Of the chosen block". */
    private static void ofTheChosenBlock() {
        PacketRows x = new PacketRows(1, 1);
        x.grid(0, 1, 2, 2, 1);
        int blocks = x.told(1);
        for (int i = 0; i < blocks; i++) {
            chooseByNumber(x, i);
            x.passes(0, 1 + i, 100 + i);
            x.zero(i);
        }
        x.write();
        x.read();
        for (int i = blocks - 1; i >= 0; i--) {
            chooseByNumber(x, i);
            Check.got("block " + i, x, 0, 1 + i, 100 + i, i, 0);
        }
    }

    private static void chooseByNumber(PacketRows x, int i) {
        int number = i == 0 ? x.choose(0, 0, 0, 0, 0)
                : x.choose(0, 1, (i - 1) / 6, (i - 1) / 2 % 3, (i - 1) % 2);
        Check.due("choose", number, i);
    }

    /** "what was read last": not what was told, written or fed since. */
    private static void whatWasReadLast() {
        PacketRows x = new PacketRows(1, 0);
        Check.bytes(x, 0b11100101);
        x.read();
        Check.got("read", x, 0, 1, 5, 0, 0);
        x.passes(0, 2, 3);
        x.zero(4);
        Check.got("told since", x, 0, 1, 5, 0, 0);
        x.write();
        Check.got("written since", x, 0, 1, 5, 0, 0);
        x.wipe();
        x.feed(1, 0);
        Check.got("fed since", x, 0, 1, 5, 0, 0);
        x.part(0, 1, 1, 1);
        x.whole();
        x.component();
        Check.got("parts and components since", x, 0, 1, 5, 0, 0);
        x.feed(1, 0);
        x.read();
        Check.got("read last", x, 0, 0, 0, 0, -1);
    }

    /** "PASSES in a layer (what = 0), BYTES (1)". */
    private static void passesAndBytesInALayer() {
        PacketRows x = new PacketRows(8, 0);
        for (int layer = 0; layer < 8; layer += 2) {
            x.passes(layer, 164 - layer, 65535 - layer);
        }
        x.write();
        x.read();
        for (int layer = 0; layer < 8; layer++) {
            boolean has = layer % 2 == 0;
            Check.got("layer " + layer, x, layer, has ? 164 - layer : 0, has ? 65535 - layer : 0,
                    0, 0);
        }
    }

    /** "2 and 3 of any layer". */
    private static void zerosAndFirstOfAnyLayer() {
        PacketRows x = new PacketRows(8, 0);
        x.zero(30);
        x.passes(5, 1, 1);
        x.write();
        x.read();
        for (int layer = 0; layer < 8; layer++) {
            Check.due("got(" + layer + ", 2)", x.got(layer, 2), 30);
            Check.due("got(" + layer + ", 3)", x.got(layer, 3), 5);
        }
    }

    /** "the first layer with passes (3 ..". */
    private static void firstLayerWithPasses() {
        for (int first = 0; first < 8; first++) {
            PacketRows x = new PacketRows(8, 0);
            for (int layer = first; layer < 8; layer += 3) {
                x.passes(layer, 1, 0);
            }
            x.write();
            x.read();
            Check.due("first " + first, x.got(0, 3), first);
            Check.due("first " + first, x.got(7, 3), first);
        }
    }

    /** "NONE: none": read, but without passes; its zero planes were told by no head. */
    private static void noneWithoutPasses() {
        PacketRows x = new PacketRows(2, 0);
        x.grid(0, 0, 1, 2, 1);
        x.zero(9);
        x.choose(0, 0, 0, 0, 1);
        x.zero(9);
        x.passes(1, 1, 1);
        x.write();
        x.read();
        Check.got("with passes", x, 0, 0, 0, 9, 1);
        x.choose(0, 0, 0, 0, 0);
        Check.got("without passes", x, 0, 0, 0, 0, -1);
        Check.got("without passes", x, 1, 0, 0, 0, -1);
    }

    /** "0 (NONE) when nothing was read": before read(), after a fault, of new blocks, in no part. */
    private static void nothingWasRead() {
        PacketRows x = new PacketRows(2, 0);
        x.passes(0, 3, 3);
        x.zero(3);
        x.write();
        for (int layer = 0; layer < 2; layer++) {
            Check.got("before read()", x, layer, 0, 0, 0, -1);
        }
        x.read();
        Check.got("read", x, 0, 3, 3, 3, 0);
        x.wipe();
        x.read();
        Check.got("after a fault", x, 0, 0, 0, 0, -1);
        x.write();
        x.read();
        Check.got("read", x, 0, 3, 3, 3, 0);
        x.grid(0, 0, 1, 1, 1);
        Check.got("after grid()", x, 0, 0, 0, 0, -1);
        x.component();
        x.choose(1, 0, 0, 0, 0);
        x.passes(0, 3, 3);
        x.part(0, 2, 1, 1);
        x.write();
        Check.due("read()", x.read(), 2);
        Check.got("in no part", x, 0, 0, 0, 0, -1);
    }

    /** "IndexOutOfBoundsException: there is no such layer", of each what. */
    private static void gotOfNoSuchLayer() {
        for (int layers = 1; layers <= 8; layers++) {
            PacketRows x = new PacketRows(layers, 0);
            for (int what = 0; what <= 3; what++) {
                int w = what;
                Check.due("layer 0", x.got(0, w), w == 3 ? -1 : 0);
                Check.due("the last layer", x.got(layers - 1, w), w == 3 ? -1 : 0);
                for (int layer : new int[] {-1, layers, 8, MIN, MAX}) {
                    Check.outOfBounds("got(" + layer + ", " + w + ")", () -> x.got(layer, w));
                }
            }
        }
    }

    /** "IndexOutOfBoundsException: there is no such .. what". */
    private static void gotOfNoSuchWhat() {
        PacketRows x = new PacketRows(1, 0);
        for (int i = 0; i < 2; i++) {
            for (int w : new int[] {-1, 4, -2, 5, MIN, MAX}) {
                Check.outOfBounds("got(0, " + w + ")", () -> x.got(0, w));
                Check.outOfBounds("got(1, " + w + ")", () -> x.got(1, w));
            }
            x.write();
            x.read();
        }
    }

    /** "Bytes (what = 0)". */
    private static void toldBytes() {
        PacketRows x = new PacketRows(3, 0);
        Check.due("none", x.told(0), 0);
        x.feed(1, 0);
        Check.due("one", x.told(0), 1);
        x.feed(8, 0);
        Check.due("nine", x.told(0), 9);
        x.write();
        Check.due("written", x.told(0), 3);
        x.read();
        Check.due("read", x.told(0), 3);
        x.wipe();
        Check.due("wiped", x.told(0), 0);
    }

    /** "blocks in all (1)". */
    private static void toldBlocks() {
        for (int levels = 0; levels <= 3; levels++) {
            PacketRows x = new PacketRows(1, levels);
            int one = 1 + 3 * levels;
            Check.due("one component", x.told(1), one);
            x.component();
            x.component();
            Check.due("three", x.told(1), 3 * one);
            x.component();
            Check.due("no fourth", x.told(1), 3 * one);
            x.grid(2, 0, 4, 4, 3);
            Check.due("a grid", x.told(1), 3 * one + 47);
        }
    }

    /** "parts (2)". */
    private static void toldParts() {
        PacketRows x = new PacketRows(1, 0);
        Check.due("none", x.told(2), 0);
        for (int n = 1; n <= 7; n++) {
            x.part(0, 1, 1, 1);
            Check.due("parts", x.told(2), Math.min(n, 6));
        }
        x.whole();
        Check.due("none again", x.told(2), 0);
    }

    /** "components (3)". */
    private static void toldComponents() {
        PacketRows x = new PacketRows(1, 0);
        for (int n = 1; n <= 4; n++) {
            Check.due("components", x.told(3), Math.min(n, 3));
            x.component();
        }
        Check.due("components", x.told(3), 3);
    }

    /** "the fault of the last read() (4; 0: none)". */
    private static void toldFault() {
        PacketRows x = new PacketRows(1, 0);
        Check.due("before read()", x.told(4), 0);
        x.read();
        Check.due("bytes end", x.told(4), 1);
        x.feed(2, 0xFFFF);
        Check.due("until the next read()", x.told(4), 1);
        x.read();
        Check.due("behind 255", x.told(4), 2);
        x.write();
        x.wipe();
        x.grid(0, 0, 1, 1, 1);
        Check.due("until the next read()", x.told(4), 2);
        x.feed(5, 0xC0);
        x.read();
        Check.due("31 zero planes", x.told(4), 3);
        x.wipe();
        x.feed(1, 0);
        x.read();
        Check.due("none", x.told(4), 0);
    }

    /** "how many bytes it went over (5; 0 with a fault)". */
    private static void toldHowManyBytesItWentOver() {
        PacketRows x = new PacketRows(2, 0);
        Check.due("before read()", x.told(5), 0);
        x.feed(1, 0);
        x.read();
        Check.due("with a fault in the second", x.told(5), 0);
        x.feed(1, 0);
        Check.due("until the next read()", x.told(5), 0);
        x.read();
        Check.due("just all", x.told(5), 2);
        x.feed(8, -1);
        x.read();
        Check.due("fewer than there are", x.told(5), 2);
        x.wipe();
        Check.due("until the next read()", x.told(5), 2);
        Check.bytes(x, 0b11101111, 0b11110111, 255, 0, 0, 0);
        x.read();
        Check.due("with the byte behind 255", x.told(5), 5);
        Check.bytes(x, 0b11101111, 0b11110111, 254, 0, 0, 0);
        x.read();
        Check.due("without one", x.told(5), 4);
        Check.bytes(x, 0b11101111, 0b11110111, 255, 128, 0, 0);
        x.read();
        Check.due("with a fault", x.told(5), 0);
    }

    /** "IndexOutOfBoundsException: another what". */
    private static void toldOfAnotherWhat() {
        PacketRows x = new PacketRows(1, 0);
        int[] due = {0, 1, 0, 1, 0, 0};
        for (int what = 0; what <= 5; what++) {
            Check.due("told(" + what + ")", x.told(what), due[what]);
        }
        for (int what : new int[] {-1, 6, -2, 7, MIN, MAX}) {
            Check.outOfBounds("told(" + what + ")", () -> x.told(what));
        }
    }
}
