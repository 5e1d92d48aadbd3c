/** Promise 11: write, by heads made by hand from the document's words. */
public final class WriteTest {
    public static void main(String[] args) {
        emptyPackets();
        oneBlock();
        passCounts();
        lengths();
        growthStays();
        powerOfPasses();
        stuffing();
        firstLayers();
        treeOfFirsts();
        treeOfZeros();
        treesByBand();
        treesStayBetweenLayers();
        writeReplaces();
        tooManyBytes();
        justEnoughBytes();
        Check.end();
    }

    private static void emptyPackets() {
        Check.heads("nothing told", new PacketRows(1, 0), "0");
        Check.heads("nothing told", new PacketRows(3, 1), "0", "0", "0", "0", "0", "0");
    }

    private static void oneBlock() {
        PacketRows x = new PacketRows(1, 0);
        x.passes(0, 1, 5);
        x.zero(3);
        Check.heads("one block", x, "1 1 0001 0 0 101");
        Check.due("byteAt(0)", x.byteAt(0), 196);
        Check.due("byteAt(1)", x.byteAt(1), 160);
    }

    private static void passCounts() {
        Object[][] cases = {
            {1, "0", 3}, {2, "10", 4}, {3, "1100", 4}, {4, "1101", 5}, {5, "1110", 5},
            {6, "1111 00000", 5}, {7, "1111 00001", 5}, {8, "1111 00010", 6},
            {35, "1111 11101", 8}, {36, "1111 11110", 8}, {37, "1111 11111 0000000", 8},
            {38, "1111 11111 0000001", 8}, {63, "1111 11111 0011010", 8},
            {64, "1111 11111 0011011", 9}, {127, "1111 11111 1011010", 9},
            {128, "1111 11111 1011011", 10}, {163, "1111 11111 1111110", 10},
            {164, "1111 11111 1111111", 10}
        };
        for (Object[] c : cases) {
            PacketRows x = new PacketRows(1, 0);
            x.passes(0, (Integer) c[0], 1);
            String length = "0".repeat((Integer) c[2] - 1) + "1";
            Check.heads(c[0] + " passes", x, "1 1 1 " + c[1] + " 0 " + length);
        }
    }

    private static void lengths() {
        for (int bytes : new int[] {0, 1, 7, 8, 9, 15, 16, 255, 256, 1023, 1024, 32768, 65535}) {
            PacketRows x = new PacketRows(1, 0);
            x.passes(0, 1, bytes);
            int width = 3;
            String grow = "";
            while (bytes >= 1 << width) {
                width++;
                grow += "1";
            }
            Check.heads(bytes + " bytes", x, "1 1 1 0 " + grow + "0 " + binary(bytes, width));
        }
    }

    private static void growthStays() {
        PacketRows x = new PacketRows(4, 0);
        x.passes(0, 1, 8);
        x.passes(1, 1, 1);
        x.passes(3, 2, 64);
        Check.heads("growth stays", x,
                "1 1 1 0 10 1000", "1 1 0 0 0001", "0", "1 1 10 110 1000000");
        x.passes(0, 1, 65535);
        x.passes(1, 164, 65535);
        x.passes(3, 1, 0);
        Check.heads("16 and 7 bits", x,
                "1 1 1 0 11111111111110 1111111111111111",
                "1 1 1111 11111 1111111 0 00000001111111111111111", "0",
                "1 1 0 0 0000000000000000");
        // Each write begins with a growth of 3 again.
        Check.heads("written again", x,
                "1 1 1 0 11111111111110 1111111111111111",
                "1 1 1111 11111 1111111 0 00000001111111111111111", "0",
                "1 1 0 0 0000000000000000");
        // Growth is each block's own.
        PacketRows y = new PacketRows(1, 0);
        y.grid(0, 0, 1, 2, 1);
        y.passes(0, 1, 100);
        y.choose(0, 0, 0, 0, 1);
        y.passes(0, 1, 1);
        Check.heads("two blocks", y, "1  1 1 1 1 0 11110 1100100  1 1 0 0 001");
    }

    private static void powerOfPasses() {
        for (int passes = 1; passes <= 164; passes++) {
            int power = 0;
            while (1 << (power + 1) <= passes) {
                power++;
            }
            PacketRows x = new PacketRows(2, 0);
            x.passes(0, 1, 0);
            x.passes(1, passes, (1 << (3 + power)) - 1);
            x.write();
            int begin = x.packet(1, 4);
            int size = x.told(0);
            int bits = 1 + 1 + codeLength(passes) + 1 + 3 + power;
            int without255 = (bits + 7) / 8;
            // All ones may need bytes for stuffing; at most one more here.
            int more = size - begin - without255;
            Check.due(passes + " passes: no growth", more == 0 || more == 1 ? 1 : 0, 1);
            x.passes(1, passes, 1 << (3 + power));
            x.write();
            x.read();
            Check.got(passes + " passes", x, 1, passes, 1 << (3 + power), 0, 0);
        }
    }

    private static int codeLength(int passes) {
        return passes == 1 ? 1 : passes == 2 ? 2 : passes < 6 ? 4 : passes < 37 ? 9 : 16;
    }

    private static void stuffing() {
        // The last byte is 255 by its own bits: a byte 0 follows, and belongs to the head.
        PacketRows x = new PacketRows(2, 0);
        x.passes(0, 1, 2047);
        Check.due("write()", x.write(), 5);
        int[] want = {239, 247, 255, 0, 0, -1};
        for (int i = 0; i < want.length; i++) {
            Check.due("byteAt(" + i + ")", x.byteAt(i), want[i]);
        }
        Check.due("packet(1, 4)", x.packet(1, 4), 4);
        // Behind a 255 within a head there are seven bits, and eight again behind those.
        PacketRows y = new PacketRows(1, 0);
        y.passes(0, 164, 65535);
        y.zero(30);
        int[] long1 = {192, 0, 0, 0, 255, 127, 255, 63, 255, 96, -1};
        Check.due("write()", y.write(), 10);
        for (int i = 0; i < long1.length; i++) {
            Check.due("byteAt(" + i + ")", y.byteAt(i), long1[i]);
        }
        // A head that fills its last byte without being 255 needs no byte more.
        PacketRows z = new PacketRows(2, 0);
        z.passes(0, 1, 7);
        Check.due("write()", z.write(), 2);
        Check.due("byteAt(0)", z.byteAt(0), 0b11100111);
        Check.due("byteAt(1)", z.byteAt(1), 0);
        // Behind 255, seven bits that fill the byte: no byte more either.
        PacketRows w = new PacketRows(1, 0);
        w.passes(0, 164, 127);
        Check.heads("seven bits", w, "1 1 1 1111 11111 1111111 0 0001111111");
    }

    private static void firstLayers() {
        PacketRows x = new PacketRows(4, 0);
        x.passes(2, 1, 1);
        Check.heads("first in layer 2", x, "0", "0", "1 001 1 0 0 001", "0");
        x.passes(3, 2, 1);
        Check.heads("and in layer 3", x, "0", "0", "1 001 1 0 0 001", "1 1 10 0 0001");
        x.passes(0, 3, 0);
        Check.heads("and in layer 0", x,
                "1 1 1 1100 0 0000", "0", "1 1 0 0 001", "1 1 10 0 0001");
    }

    private static void treeOfFirsts() {
        // Three by one: nodes over blocks 0 and 1, over block 2, and over both.
        PacketRows x = new PacketRows(3, 0);
        x.grid(0, 0, 1, 3, 1);
        x.choose(0, 0, 0, 0, 2);
        x.passes(1, 1, 1);
        x.choose(0, 0, 0, 0, 0);
        x.passes(2, 1, 2);
        Check.heads("three by one", x,
                "0",
                // top: 0 at 0, 1 at 1; left node: 0 at 1; block 2: its node 1, itself 1.
                "1  01 0  1 1  1 1 1 0 0 001",
                // left node 1 at 2, block 0 1 at 2; block 1: 0 at 2; block 2: a bit.
                "1  1 1 1 1 0 0 010  0  0");
        // Low comes from above: a tree of 4 by 3, one block alone in the last layer.
        PacketRows y = new PacketRows(8, 0);
        y.grid(0, 0, 1, 4, 3);
        y.choose(0, 0, 0, 0, 11);
        y.passes(7, 1, 0);
        Check.heads("four by three", y, "0", "0", "0", "0", "0", "0", "0",
                // top; the nodes over 0, over 2, over 8; that over 10, 10 itself; 11, its zeros.
                "1  00000001  0  0  0  1 0  1  111 0 0 000");
    }

    private static void treeOfZeros() {
        // The least is of all blocks of the band, those without passes too.
        PacketRows x = new PacketRows(1, 0);
        x.grid(0, 0, 1, 2, 1);
        x.zero(4);
        x.choose(0, 0, 0, 0, 1);
        x.zero(6);
        x.passes(0, 1, 0);
        Check.heads("zero planes", x, "1  1 0  1  00001 001 0 0 000");
        x.choose(0, 0, 0, 0, 0);
        x.passes(0, 1, 0);
        Check.heads("zero planes", x, "1  1 1 00001 1 0 0 000  1 001 0 0 000");
        x.zero(6);
        Check.heads("zero planes", x, "1  1 1 0000001 1 0 0 000  1 1 0 0 000");
    }

    private static void treesByBand() {
        PacketRows x = new PacketRows(1, 1);
        x.grid(0, 1, 2, 1, 1);
        x.choose(0, 1, 0, 1, 0);
        x.passes(0, 1, 1);
        x.zero(2);
        x.choose(0, 1, 1, 2, 0);
        x.passes(0, 1, 2);
        Check.heads("bands and precincts", x, "0",
                "1  0  1 001 0 0 001  0", "1  0  0  1 1 0 0 010");
    }

    private static void treesStayBetweenLayers() {
        PacketRows x = new PacketRows(3, 0);
        x.grid(0, 0, 1, 2, 2);
        for (int block = 0; block < 4; block++) {
            x.choose(0, 0, 0, 0, block);
            x.zero(block);
            if (block > 0) {
                x.passes(block - 1, 1, 0);
            }
        }
        Check.heads("two by two", x,
                "1  1 0  1  1 01 0 0 000  0  0",
                "1  0  0  1 001 0 0 000  0",
                "1  0  0  0  1 0001 0 0 000");
        // A packet that is empty tells nothing of the trees.
        PacketRows y = new PacketRows(3, 0);
        y.grid(0, 0, 1, 2, 1);
        y.passes(0, 1, 0);
        y.choose(0, 0, 0, 0, 1);
        y.passes(2, 1, 0);
        Check.heads("a layer between", y,
                "1  1 1 1 1 0 0 000  0", "0", "1  0  01 1 0 0 000");
    }

    private static void writeReplaces() {
        PacketRows x = new PacketRows(1, 0);
        x.feed(8, -1);
        Check.due("write()", x.write(), 1);
        Check.due("byteAt(0)", x.byteAt(0), 0);
        Check.due("byteAt(1)", x.byteAt(1), -1);
        Check.due("told(0)", x.told(0), 1);
        Check.due("feed()", x.feed(2, 0x1234), 3);
        Check.due("byteAt(1)", x.byteAt(1), 0x34);
        Check.due("write()", x.write(), 1);
        Check.due("byteAt(1)", x.byteAt(1), -1);
    }

    /** More calls than an object is promised for: no fewer come to more than 6000 bytes. */
    private static void tooManyBytes() {
        PacketRows x = new PacketRows(8, 3);
        x.grid(0, 1, 4, 4, 3);
        x.grid(0, 2, 4, 4, 3);
        int told = 0;
        int last = x.write();
        for (int band = 0; band < 24; band++) {
            for (int block = 0; block < 12; block++) {
                x.choose(0, 1 + band / 12, band % 4, band % 12 / 4, block);
                for (int layer = 0; layer < 8; layer++) {
                    x.passes(layer, 164, 65535);
                    told++;
                    Check.due("told since", x.packet(0, 4), -1);
                    if (told % 16 == 0) {
                        int answer = x.write();
                        if (answer == -1) {
                            overflown(x, last);
                            return;
                        }
                        last = answer;
                    }
                }
            }
        }
        Check.due("write() is NONE at last", 0, 1);
    }

    private static void overflown(PacketRows x, int last) {
        Check.due("6000 are not far", last > 5800 && last <= 6000 ? 1 : 0, 1);
        Check.due("the bytes stay", x.told(0), last);
        Check.due("the last byte stays", x.byteAt(last - 1) >= 0 ? 1 : 0, 1);
        Check.due("no more than these", x.byteAt(last), -1);
        Check.due("heads as told since", x.packet(0, 4), -1);
        Check.due("read of what stays", x.read(), x.packets());
        Check.due("went over all of them", x.told(5), last);
        Check.due("write() again", x.write(), -1);
        x.passes(7, 0, 0);
        for (int i = 0; i < 12; i++) {
            x.choose(0, 1, 0, 0, i);
            for (int layer = 0; layer < 8; layer++) {
                x.passes(layer, 0, 0);
            }
        }
        Check.due("write() of fewer", x.write() > 0 ? 1 : 0, 1);
        Check.due("begins again", x.packet(0, 4), 0);
    }

    /** Blocks are filled up, then told with little, until there are 6000 bytes and not one more. */
    private static void justEnoughBytes() {
        PacketRows x = new PacketRows(8, 3);
        x.grid(0, 1, 4, 4, 3);
        x.grid(0, 2, 4, 4, 3);
        int size = 0;
        for (int block = 0; block < 288 && size < 6000 && size != -1; block++) {
            x.choose(0, 1 + block / 144, block / 36 % 4, block / 12 % 3, block % 12);
            for (int layer = 0; layer < 8 && size < 6000 && size != -1; layer++) {
                x.passes(layer, size < 5900 ? 164 : 1, size < 5900 ? 65535 : 0);
                size = x.write();
            }
        }
        Check.due("write()", size, 6000);
        Check.due("told(0)", x.told(0), 6000);
        Check.due("byteAt(5999)", x.byteAt(5999) >= 0 ? 1 : 0, 1);
        Check.due("read()", x.read(), x.packets());
        Check.due("told(5)", x.told(5), 6000);
        Check.due("feed()", x.feed(1, 0), -1);
    }

    private static String binary(int value, int width) {
        StringBuilder bits = new StringBuilder();
        for (int i = width - 1; i >= 0; i--) {
            bits.append(value >> i & 1);
        }
        return bits.toString();
    }
}
