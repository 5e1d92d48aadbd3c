/**
 * The edges that sentences of the document name, a method for each: the bits of heads as the
 * terms tell them, the trees, and promise 11.
 */
public final class EdgesOfHeadsTest {
    /** One block in a head of its own: the first bit, FIRST, no zero planes. */
    private static final String FIRST = "1 1 1 ";

    public static void main(String[] args) {
        highestBitFirst();
        sevenBitsBehind255();
        restOfTheByteIsZero();
        byteZeroBehindALast255();

        firstBitWithoutPasses();
        firstBitIsOfTheLayerAndThePrecinct();
        firstIsToldUpToTheLayer();
        firstOfNoPasses();
        aBitWhenItHadPassesBefore();
        zerosWithTheFirstPassesAlone();
        passCounts();
        bytesBelowThePower();
        powerNotAboveThePasses();
        growthOfMany();
        growthIsThreeAtFirst();
        growthStays();

        nodesOfTwoByTwo();
        nodesOfTwoByTwoFromTheFirst();
        leastOfTheValues();
        whatWasToldBefore();
        lowBelowTheEnd();
        doneTellsNoMore();
        treesOfEachBand();

        writeInPlaceOfThoseThereWere();
        writeOfTheLeast();
        noneAbove6000();
        Check.end();
    }

    private static PacketRows one(int passes, int bytes, int zeros) {
        PacketRows x = new PacketRows(1, 0);
        x.passes(0, passes, bytes);
        x.zero(zeros);
        return x;
    }

    private static void bytes(String name, PacketRows x, int... want) {
        Check.due(name + ": write()", x.write(), want.length);
        for (int i = 0; i < want.length; i++) {
            Check.due(name + ": byteAt(" + i + ")", x.byteAt(i), want[i]);
        }
        Check.due(name + ": byteAt(end)", x.byteAt(want.length), -1);
    }

    /** "the highest bit of each byte first". */
    private static void highestBitFirst() {
        bytes("no bit", new PacketRows(1, 0), 0);
        bytes("11100001", one(1, 1, 0), 0b11100001);
        bytes("11100100", one(1, 4, 0), 0b11100100);
    }

    /** "behind a byte 255 the next one has just seven, its highest bit is 0". */
    private static void sevenBitsBehind255() {
        // 254 is no 255: 111 1111 0 | 0001 0 000 | 01, of 7 passes.
        bytes("behind 254", one(7, 1, 0), 0b11111110, 0b00010000, 0b01000000);
        // 111 1111 1 | 0000 0 00 | 00001, of 22 passes: seven bits in the second byte.
        bytes("behind 255", one(22, 1, 0), 255, 0b00000000, 0b00001000);
        // 111 1111 1 | 1111 111 | 1111 0 000 | 0000001: the byte behind 255 is filled with ones.
        bytes("127 behind 255", one(164, 1, 0), 255, 127, 0b11110000, 0b00000010);
        // Behind 127 there are eight bits again.
        PacketRows x = new PacketRows(2, 0);
        x.passes(0, 1, 7);
        x.passes(1, 164, 1023);
        // 1 1 111111 | 111 1111 | 111 0 1111 | 111111.
        bytes("behind 127", x, 0b11100111, 255, 127, 0b11101111, 0b11111100);
    }

    /** "When the head is over the rest of the byte is 0": of seven bits, of one and of none. */
    private static void restOfTheByteIsZero() {
        bytes("seven", new PacketRows(1, 0), 0);
        bytes("none", one(1, 7, 0), 0b11100111);
        bytes("seven more", one(1, 7, 1), 0b11010011, 0b10000000);
        bytes("one", one(1, 7, 7), 0b11000000, 0b01001110);
        bytes("none again", one(1, 7, 8), 0b11000000, 0b00100111);
        // The next head begins with a byte of its own.
        PacketRows x = new PacketRows(2, 0);
        x.passes(0, 1, 7);
        x.zero(1);
        bytes("two heads", x, 0b11010011, 0b10000000, 0);
    }

    /** "if the last byte is 255 a byte 0 follows". */
    private static void byteZeroBehindALast255() {
        // 1 1 1 0 1111 | 1111 0 111 | 11111111: 2047 bytes in eleven bits.
        bytes("a last 255", one(1, 2047, 0), 0b11101111, 0b11110111, 255, 0);
        bytes("a last 254", one(1, 2046, 0), 0b11101111, 0b11110111, 254);
        // Its ones are not all of it: the rest is 0, so it is no 255.
        bytes("ones and a rest", one(1, 1023, 0), 0b11101111, 0b11101111, 0b11111100);
        // 1 1 000000 | 0 1 0 11111 | 1111111 0 | 255 | 1111111: behind a 255, filled with seven.
        bytes("a last 127", one(1, 32767, 7), 0b11000000, 0b01011111, 254, 255, 127);
        PacketRows seven = new PacketRows(2, 0);
        seven.passes(0, 1, 2047);
        seven.passes(1, 1, 0);
        bytes("heads behind it", seven, 0b11101111, 0b11110111, 255, 0, 0b11000000, 0b00000000);
        Check.due("packet(1, 4)", seven.packet(1, 4), 4);
        PacketRows last = new PacketRows(2, 0);
        last.passes(0, 1, 8191);
        last.passes(1, 1, 8191);
        // 1 1 0 0 1111 | 11111111 | 1: the 255 is not the last byte, that one has one bit.
        last.write();
        int at = last.packet(1, 4);
        int[] want = {0b11001111, 255, 0b01000000, -1};
        for (int i = 0; i < want.length; i++) {
            Check.due("one bit behind 255", last.byteAt(at + i), want[i]);
        }
    }

    /** "The first bit: 0 if no block of the packet has passes in its layer, and that is all". */
    private static void firstBitWithoutPasses() {
        for (int block = 0; block < 18; block++) {
            PacketRows x = new PacketRows(1, 1);
            x.grid(0, 1, 2, 3, 1);
            Check.heads("none", x, "0", "0", "0");
            x.choose(0, 1, block / 9, block / 3 % 3, block % 3);
            x.zero(3);
            Check.heads("zero planes are no passes", x, "0", "0", "0");
            x.passes(0, 1, 0);
            x.write();
            Check.due("resolution 0", x.byteAt(0), 0);
            Check.due("precinct 0", x.byteAt(x.packet(1, 4)) >> 7, block < 9 ? 1 : 0);
            Check.due("precinct 1", x.byteAt(x.packet(2, 4)) >> 7, block < 9 ? 0 : 1);
            x.passes(0, 0, 0);
            Check.heads("none again", x, "0", "0", "0");
        }
    }

    /** "in its layer": passes in other layers do not count. */
    private static void firstBitIsOfTheLayerAndThePrecinct() {
        for (int layer = 0; layer < 8; layer++) {
            PacketRows x = new PacketRows(8, 0);
            x.passes(layer, 1, 0);
            x.write();
            for (int l = 0; l < 8; l++) {
                Check.due("layer " + l, x.byteAt(x.packet(l, 4)) >> 7, l == layer ? 1 : 0);
            }
        }
    }

    /** "the value FIRST .. is told of the band's TREE up to the layer + 1". */
    private static void firstIsToldUpToTheLayer() {
        // Block 1 makes the packet of each layer not empty; block 0 comes first in a layer.
        String[][] due = {
            {"1  1 1 1 1 0 0 000  1 1 0 0 000", "1  0  1 0 0 000", "1  0  1 0 0 000"},
            {"1  1 0  1 1 1 0 0 000", "1  1 1 0 0 000  1 0 0 000", "1  0  1 0 0 000"},
            {"1  1 0  1 1 1 0 0 000", "1  0  1 0 0 000", "1  1 1 0 0 000  1 0 0 000"},
            {"1  1 0  1 1 1 0 0 000", "1  0  1 0 0 000", "1  0  1 0 0 000"}
        };
        for (int first = 0; first <= 3; first++) {
            PacketRows x = new PacketRows(3, 0);
            x.grid(0, 0, 1, 2, 1);
            if (first < 3) {
                x.passes(first, 1, 0);
            }
            x.choose(0, 0, 0, 0, 1);
            for (int layer = 0; layer < 3; layer++) {
                x.passes(layer, 1, 0);
            }
            Check.heads("FIRST " + first, x, due[first]);
        }
    }

    /** "or how many layers there are": a block that never comes is told as not yet there. */
    private static void firstOfNoPasses() {
        for (int layers = 1; layers <= 8; layers++) {
            PacketRows x = new PacketRows(layers, 0);
            x.grid(0, 0, 1, 2, 1);
            x.choose(0, 0, 0, 0, 1);
            x.passes(layers - 1, 1, 0);
            String[] due = new String[layers];
            for (int layer = 0; layer < layers; layer++) {
                due[layer] = "0";
            }
            // The top node comes to the last layer; block 0 is 0 there, and at the end so.
            due[layers - 1] = "1  " + "0".repeat(layers - 1) + "1  0  1  1 1 0 0 000";
            Check.heads(layers + " layers", x, due);
        }
    }

    /** "else a bit, whether it has passes in this one. If it has none .. that is all of it." */
    private static void aBitWhenItHadPassesBefore() {
        PacketRows x = new PacketRows(4, 0);
        x.grid(0, 0, 1, 2, 1);
        x.passes(0, 1, 0);
        x.passes(2, 1, 0);
        x.choose(0, 0, 0, 0, 1);
        for (int layer = 0; layer < 4; layer++) {
            x.passes(layer, 1, 0);
        }
        Check.heads("0 and 1", x, "1  1 1 1 1 0 0 000  1 1 0 0 000",
                "1  0  1 0 0 000", "1  1 0 0 000  1 0 0 000", "1  0  1 0 0 000");
    }

    /** "If these are its first ones: its ZERO planes are told". */
    private static void zerosWithTheFirstPassesAlone() {
        for (int zeros : new int[] {0, 1, 30}) {
            PacketRows x = new PacketRows(3, 0);
            x.zero(zeros);
            x.passes(1, 1, 0);
            x.passes(2, 1, 0);
            Check.heads(zeros + " zero planes", x, "0",
                    "1 01 " + "0".repeat(zeros) + "1 0 0 000", "1 1 0 0 000");
        }
    }

    /** "1: 0. 2: 10. 3 to 5: 11 and two bits .. 37 to 164: 111111111 and seven bits". */
    private static void passCounts() {
        for (int passes = 1; passes <= 164; passes++) {
            String code = passes == 1 ? "0" : passes == 2 ? "10"
                    : passes <= 5 ? "11" + binary(passes - 3, 2)
                    : passes <= 36 ? "1111" + binary(passes - 6, 5)
                    : "111111111" + binary(passes - 37, 7);
            int power = passes >= 128 ? 7 : passes >= 64 ? 6 : passes >= 32 ? 5 : passes >= 16 ? 4
                    : passes >= 8 ? 3 : passes >= 4 ? 2 : passes >= 2 ? 1 : 0;
            Check.heads(passes + " passes", one(passes, 5, 0),
                    FIRST + code + "0" + binary(5, 3 + power));
        }
    }

    /** "a 1 for each by which G has to grow so that BYTES are below 2^(G + L)". */
    private static void bytesBelowThePower() {
        for (int width = 3; width <= 15; width++) {
            int power = 1 << width;
            String grow = "1".repeat(width - 3);
            Check.heads("one below 2^" + width, one(1, power - 1, 0),
                    FIRST + "0 " + grow + "0" + "1".repeat(width));
            Check.heads("2^" + width, one(1, power, 0),
                    FIRST + "0 1" + grow + "0 1" + "0".repeat(width));
        }
        Check.heads("none", one(1, 0, 0), FIRST + "0 0 000");
        Check.heads("65535", one(1, 65535, 0),
                FIRST + "0 1111111111111 0 1111111111111111");
    }

    /** "L, the greatest number with 2^L not above the passes". */
    private static void powerNotAboveThePasses() {
        String[] codes = {"10", "1101", "111100010", "111101010", "111111010", "", ""};
        for (int power = 1; power <= 7; power++) {
            int passes = 1 << power;
            String here = power < 6 ? codes[power - 1] : "111111111" + binary(passes - 37, 7);
            String before = passes == 2 ? "0" : passes == 4 ? "1100"
                    : passes <= 37 ? "1111" + binary(passes - 7, 5)
                    : "111111111" + binary(passes - 38, 7);
            Check.heads(passes + " passes", one(passes, (1 << (3 + power)) - 1, 0),
                    FIRST + here + "0" + "1".repeat(3 + power));
            Check.heads("one less", one(passes - 1, (1 << (3 + power)) - 1, 0),
                    FIRST + before + "10" + "1".repeat(3 + power));
        }
    }

    /** The greatest BYTES with the most passes: G grows by 6, and no further. */
    private static void growthOfMany() {
        String many = FIRST + "111111111 1111111 ";
        Check.heads("1023", one(164, 1023, 0), many + "0 1111111111");
        Check.heads("1024", one(164, 1024, 0), many + "10 10000000000");
        Check.heads("32767", one(164, 32767, 0), many + "111110 111111111111111");
        Check.heads("32768", one(164, 32768, 0), many + "1111110 1000000000000000");
        Check.heads("65535", one(164, 65535, 0), many + "1111110 1111111111111111");
    }

    /** "with G, 3 at first for each block", and at first in each write(). */
    private static void growthIsThreeAtFirst() {
        PacketRows x = new PacketRows(1, 1);
        x.grid(0, 1, 1, 2, 1);
        x.choose(0, 1, 0, 0, 0);
        x.passes(0, 1, 8);
        x.choose(0, 1, 0, 0, 1);
        x.passes(0, 1, 7);
        x.choose(0, 1, 0, 2, 1);
        x.passes(0, 1, 8);
        for (int i = 0; i < 2; i++) {
            Check.heads("write " + i, x, "0",
                    "1  1 1 1 1 0 10 1000  1 1 0 0 111  0  1 0 1 1 1 0 10 1000");
            x.read();
        }
    }

    /** "(G stays so.)": for smaller numbers, over layers without passes, and with other passes. */
    private static void growthStays() {
        PacketRows x = new PacketRows(5, 0);
        x.passes(0, 1, 16);
        x.passes(1, 1, 31);
        x.passes(3, 2, 63);
        x.passes(4, 2, 64);
        Check.heads("5 bits for one pass", x, "1 1 1 0 110 10000", "1 1 0 0 11111", "0",
                "1 1 10 0 111111", "1 1 10 10 1000000");
        x.passes(0, 4, 32);
        x.passes(1, 1, 8);
        x.passes(3, 1, 15);
        x.passes(4, 1, 16);
        Check.heads("growth by four passes", x, "1 1 1 1101 10 100000", "1 1 0 0 1000", "0",
                "1 1 0 0 1111", "1 1 0 10 10000");
    }

    /** "nodes, each for two by two of those below (fewer at the right and lower ends) .. to one". */
    private static void nodesOfTwoByTwo() {
        // The last block alone has passes. A band of one block has no node above it.
        String[][] due = {
            {"1  1  1", "1  1 0  1  11", "1  1 0  1 1  111", "1  1 0  1 0  1  111"},
            {"1  1 0  1  11", "1  1 0  0  0  1  11", "1  1 0  1 0  1  111",
                "1  1 0  1 0  0  0  1  111"},
            {"1  1 0  1 1  111", "1  1 0  1 0  1  111", "1  1 0  0  0  1 1  111",
                "1  1 0  0  0  1 0  1  111"}
        };
        for (int height = 1; height <= 3; height++) {
            for (int width = 1; width <= 4; width++) {
                PacketRows x = new PacketRows(1, 0);
                x.grid(0, 0, 1, width, height);
                x.choose(0, 0, 0, 0, width * height - 1);
                x.passes(0, 1, 0);
                Check.heads(width + " by " + height, x, due[height - 1][width - 1] + "0 0 000");
            }
        }
    }

    /** The same with the first block alone: what is behind it stays to be told. */
    private static void nodesOfTwoByTwoFromTheFirst() {
        String one = "1  1 1  11 0 0 000  ";
        String two = "1  1 1 1  111 0 0 000  ";
        String[][] due = {
            {"1  1 1 0 0 000", one + "0", two + "0  0", two + "0  0"},
            {one + "0", one + "0  0  0", two + "0  0  0  0", two + "0  0  0  0"},
            {two + "0  0", two + "0  0  0  0", two + "0  0  0  0  0  0", two + "0  0  0  0  0  0"}
        };
        for (int height = 1; height <= 3; height++) {
            for (int width = 1; width <= 4; width++) {
                PacketRows x = new PacketRows(1, 0);
                x.grid(0, 0, 1, width, height);
                x.passes(0, 1, 0);
                Check.heads(width + " by " + height, x, due[height - 1][width - 1]);
            }
        }
    }

    /** "with the least of their values": of blocks that have no passes too. */
    private static void leastOfTheValues() {
        for (int other = 0; other <= 3; other++) {
            PacketRows x = new PacketRows(1, 0);
            x.grid(0, 0, 1, 2, 1);
            x.zero(2);
            x.passes(0, 1, 0);
            x.choose(0, 0, 0, 0, 1);
            x.zero(other);
            int least = Math.min(other, 2);
            Check.heads("2 and " + other, x, "1  1 1  " + "0".repeat(least) + "1 "
                    + "0".repeat(2 - least) + "1 0 0 000  0");
        }
    }

    /** "low is the greater of low and what was told of that node before (0 at first)". */
    private static void whatWasToldBefore() {
        PacketRows x = new PacketRows(3, 0);
        x.grid(0, 0, 1, 3, 1);
        x.passes(0, 1, 0);
        x.choose(0, 0, 0, 0, 2);
        x.passes(2, 1, 0);
        // Layer 0: block 1 and the node over 2 are above 0. Layer 1 is empty and tells nothing.
        // Layer 2: block 1 from 1 on, two 0; the node over block 2 from 1 on, then block 2 at 2.
        Check.heads("from what was told", x, "1  1 1 1 111 0 0 000  0  0", "0",
                "1  0  00  01 1  1 1 0 0 000");
    }

    /** "as long as low is below T": low from above that has come to T tells nothing below. */
    private static void lowBelowTheEnd() {
        PacketRows x = new PacketRows(2, 0);
        x.grid(0, 0, 1, 4, 1);
        x.passes(0, 1, 0);
        x.choose(0, 0, 0, 0, 3);
        x.passes(1, 1, 0);
        // The node over 2 and 3 comes to 1: for layer 0 neither of them has a bit of its own.
        Check.heads("nothing below", x, "1  1 1 1 111 0 0 000  0  0",
                "1  0  0  1 0  1 1 1 0 0 000");
    }

    /** "(A node that is done tells no more; low stays its value.)" */
    private static void doneTellsNoMore() {
        PacketRows x = new PacketRows(1, 0);
        x.grid(0, 0, 1, 2, 1);
        x.zero(5);
        x.passes(0, 1, 0);
        x.choose(0, 0, 0, 0, 1);
        x.zero(7);
        x.passes(0, 1, 0);
        // The node above is done at 5: block 1 begins at 5 and needs two 0.
        Check.heads("from 5 on", x, "1  1 1 000001 1 0 0 000  1 001 0 0 000");
        x.zero(5);
        Check.heads("the same", x, "1  1 1 000001 1 0 0 000  1 1 0 0 000");
        x.zero(4);
        Check.heads("less", x, "1  1 1 00001 01 0 0 000  1 1 0 0 000");
    }

    /** "of the band's TREE", "of the band's other TREE": each band of each precinct has its own. */
    private static void treesOfEachBand() {
        PacketRows x = new PacketRows(2, 1);
        x.grid(0, 1, 2, 1, 1);
        for (int p = 0; p < 2; p++) {
            for (int b = 0; b < 3; b++) {
                x.choose(0, 1, p, b, 0);
                x.zero(b + p);
                x.passes((b + p) % 2, 1, 0);
            }
        }
        Check.heads("six trees of a kind", x, "0",
                "1  1 1 0 0 000  0  1 001 0 0 000", "1  0  1 001 0 0 000  0", "0",
                "1  0  1 01 0 0 000  0", "1  1 01 0 0 000  0  1 0001 0 0 000");
    }

    /** "All heads become bytes, in place of those there were: how many." */
    private static void writeInPlaceOfThoseThereWere() {
        PacketRows x = new PacketRows(1, 0);
        x.passes(0, 1, 7);
        x.zero(1);
        for (int fed = 0; fed <= 4; fed++) {
            x.wipe();
            if (fed > 0) {
                x.feed(fed, -1);
            }
            bytes("in place of " + fed, x, 0b11010011, 0b10000000);
            Check.due("told(0)", x.told(0), 2);
        }
        bytes("in place of its own", x, 0b11010011, 0b10000000);
    }

    /** The least there is to write: one packet without passes. */
    private static void writeOfTheLeast() {
        PacketRows x = new PacketRows(8, 3);
        x.part(0, 1, 1, 1);
        bytes("one head", x, 0);
        x.part(0, 2, 1, 1);
        bytes("two heads", x, 0, 0);
    }

    /**
     * "NONE when they would be more than 6000: these stay." No 512 calls come to 6000 bytes (each
     * brings 8 at most, empty heads 384 in all, trees some 600), so these are more than the
     * document promises for.
     */
    private static void noneAbove6000() {
        PacketRows x = new PacketRows(8, 3);
        x.grid(0, 1, 4, 4, 3);
        x.grid(0, 2, 4, 4, 3);
        int size = 0;
        int block = 0;
        while (size < 5900) {
            x.choose(0, 1 + block / 144, block / 36 % 4, block / 12 % 3, block % 12);
            for (int layer = 0; layer < 8 && size < 5900; layer++) {
                x.passes(layer, 164, 65535);
                size = x.write();
            }
            block++;
        }
        // Small steps: each brings a byte at most, so that 6000 itself is come to.
        while (size < 6000) {
            x.choose(0, 1 + block / 144, block / 36 % 4, block / 12 % 3, block % 12);
            for (int layer = 0; layer < 8 && size < 6000; layer++) {
                x.passes(layer, 1, 0);
                size = x.write();
            }
            block++;
        }
        Check.due("6000", size, 6000);
        int[] were = new int[6000];
        for (int i = 0; i < 6000; i++) {
            were[i] = x.byteAt(i);
        }
        int answer = 6000;
        int begins = 0;
        while (answer != -1) {
            begins = x.packet(1, 4);
            x.choose(0, 1 + block / 144, block / 36 % 4, block / 12 % 3, block % 12);
            x.passes(0, 1, 0);
            Check.due("told since", x.packet(1, 4), -1);
            answer = x.write();
            Check.due("6000 or NONE", answer == 6000 || answer == -1 ? 1 : 0, 1);
            if (answer == 6000) {
                for (int i = 0; i < 6000; i++) {
                    were[i] = x.byteAt(i);
                }
            }
            block++;
        }
        Check.due("begins", begins >= 0 ? 1 : 0, 1);
        Check.due("told(0)", x.told(0), 6000);
        for (int i = 0; i < 6000; i++) {
            Check.due("these stay", x.byteAt(i), were[i]);
        }
        Check.due("byteAt(6000)", x.byteAt(6000), -1);
        Check.due("not written", x.packet(1, 4), -1);
        Check.due("read of these", x.read(), x.packets());
        Check.due("told(5)", x.told(5), 6000);
        x.passes(0, 0, 0);
        Check.due("back to 6000", x.write(), 6000);
        Check.due("written", x.packet(1, 4), begins);
    }

    private static String binary(int value, int width) {
        StringBuilder bits = new StringBuilder();
        for (int i = width - 1; i >= 0; i--) {
            bits.append(value >> i & 1);
        }
        return bits.toString();
    }
}
