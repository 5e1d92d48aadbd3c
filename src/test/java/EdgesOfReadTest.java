import java.util.ArrayList;
import java.util.List;

/**
 * The edges that sentences of the document name, a method for each: READ, its FAULTS, and
 * promise 15.
 */
public final class EdgesOfReadTest {
    /** One block in a head of its own: the first bit, FIRST, no zero planes. */
    private static final String FIRST = "1 1 1 ";

    public static void main(String[] args) {
        headsOfAllPackets();
        keptBesideWhatWasTold();
        firstNotAboveTheLayer();
        firstAboveTheLayer();

        bytesEnd();
        bytesEndBehindALast255();
        highestBitBehind255();
        highestBitBehind254();
        highestBitBehindALast255();
        highestBitOfTheNextHead();
        zerosUpTo30();
        zerosUpTo30AtEachNode();
        lengthsUpTo24ByGrowth();
        lengthsUpTo24ByPasses();
        asSoonAsItIsSo();
        theFirstFaultCounts();

        restOfTheLastByte();
        restThatMakes255();
        byteBehindALast255();
        behindTheLastHead();

        howManyPackets();
        numberOfThePacketWithAFault();
        nothingIsReadThen();
        Check.end();
    }

    private static List<Integer> with(List<Integer> bytes, int... more) {
        List<Integer> all = new ArrayList<>(bytes);
        for (int value : more) {
            all.add(value);
        }
        return all;
    }

    private static void reads(String name, PacketRows x, List<Integer> bytes, int answer, int fault,
            int reach) {
        Check.bytes(x, bytes);
        Check.reads(name, x, answer, fault, reach);
    }

    /** "heads of all packets in turn", "with the same .. parts": those that there are now. */
    private static void headsOfAllPackets() {
        PacketRows x = new PacketRows(2, 0);
        x.component();
        List<Integer> four = new ArrayList<>();
        for (int k = 0; k < 4; k++) {
            four.addAll(Check.head(k < 2 ? FIRST + "0 0 00" + k : "1 1 0 0 10" + (k - 2)));
        }
        // Order 0: layer 0 of both components, then layer 1 of both.
        reads("order 0", x, four, 4, 0, 4);
        Check.got("component 0", x, 0, 1, 0, 0, 0);
        Check.got("component 0", x, 1, 1, 4, 0, 0);
        x.choose(1, 0, 0, 0, 0);
        Check.got("component 1", x, 0, 1, 1, 0, 0);
        Check.got("component 1", x, 1, 1, 5, 0, 0);
        x.part(4, 1, 1, 2);
        Check.reads("layer 0 of both", x, 2, 0, 2);
        Check.got("component 1", x, 0, 1, 1, 0, 0);
        Check.got("component 1", x, 1, 0, 0, 0, 0);
    }

    /** "what they tell is kept beside what was told". */
    private static void keptBesideWhatWasTold() {
        PacketRows x = new PacketRows(1, 0);
        x.passes(0, 2, 6);
        x.zero(1);
        reads("of other bytes", x, Check.head(FIRST + "0 0 011"), 1, 0, 1);
        Check.got("what was read", x, 0, 1, 3, 0, 0);
        Check.heads("what was told", x, "1 1 01 10 0 0110");
        reads("with a fault", x, Check.head(FIRST + "0 " + "1".repeat(22)), -1, 3, 0);
        Check.heads("what was told", x, "1 1 01 10 0 0110");
    }

    /** "(A block whose FIRST comes out as not above the layer has its first passes in this one.)" */
    private static void firstNotAboveTheLayer() {
        for (int layer = 0; layer < 8; layer++) {
            for (int first = 0; first <= layer; first++) {
                PacketRows x = new PacketRows(8, 0);
                List<Integer> bytes = new ArrayList<>();
                for (int l = 0; l < 8; l++) {
                    String head = "1 " + "0".repeat(first) + "1 01 0 0 101";
                    bytes.addAll(Check.head(l == layer ? head : "0"));
                }
                reads("FIRST " + first, x, bytes, 8, 0, bytes.size());
                for (int l = 0; l < 8; l++) {
                    Check.got("FIRST " + first + " in layer " + layer, x, l, l == layer ? 1 : 0,
                            l == layer ? 5 : 0, 1, layer);
                }
            }
        }
    }

    /** FIRST above the layer: nothing more of the block, and it is told from there on. */
    private static void firstAboveTheLayer() {
        PacketRows x = new PacketRows(3, 0);
        List<Integer> bytes = Check.head("1 0");
        bytes.addAll(Check.head("1 0"));
        bytes.addAll(Check.head("1 1 1 0 0 110"));
        reads("FIRST 2", x, bytes, 3, 0, 3);
        Check.got("FIRST 2", x, 2, 1, 6, 0, 2);
        bytes = Check.head("1 0");
        bytes.addAll(Check.head("1 0"));
        bytes.addAll(Check.head("1 0"));
        reads("FIRST is 3: it never comes", x, bytes, 3, 0, 3);
        Check.got("FIRST is 3", x, 2, 0, 0, 0, -1);
    }

    /** "1 bytes end": one byte less than the head needs, just these, and one more. */
    private static void bytesEnd() {
        String[] heads = {
            "0", FIRST + "0 0 111", "1 1 01 0 0 111", FIRST + "1111 11111 1111111 110 010101010101",
            "1 1 " + "0".repeat(30) + "1 10 0 0101"
        };
        for (String head : heads) {
            PacketRows x = new PacketRows(1, 0);
            List<Integer> bytes = Check.head(head);
            for (int n = 0; n < bytes.size(); n++) {
                reads(head + ": " + n, x, bytes.subList(0, n), -1, 1, 0);
            }
            reads(head, x, bytes, 1, 0, bytes.size());
            reads(head + " and more", x, with(bytes, 255), 1, 0, bytes.size());
        }
    }

    /** "if the last byte is 255 a byte 0 follows": without it the bytes end. */
    private static void bytesEndBehindALast255() {
        PacketRows x = new PacketRows(1, 0);
        List<Integer> bytes = List.of(0b11101111, 0b11110111, 255);
        reads("a last 255", x, bytes, -1, 1, 0);
        reads("and a 0", x, with(bytes, 0), 1, 0, 4);
        Check.got("and a 0", x, 0, 1, 2047, 0, 0);
        reads("a last 254", x, List.of(0b11101111, 0b11110111, 254), 1, 0, 3);
        Check.got("a last 254", x, 0, 1, 2046, 0, 0);
        // A last byte behind a 255 that is all ones is 127: none follows it.
        List<Integer> seven = List.of(0b11000000, 0b01011111, 254, 255, 127);
        reads("a last 127", x, seven, 1, 0, 5);
        Check.got("a last 127", x, 0, 1, 32767, 7, 0);
    }

    /** "2 the byte behind a 255 has its highest bit 1", in the midst of a head. */
    private static void highestBitBehind255() {
        for (int value = 0; value < 256; value++) {
            PacketRows x = new PacketRows(1, 0);
            // 21 passes at least: 111 1111 1 | xxxx, and bytes enough for whatever it says.
            List<Integer> bytes = List.of(255, value, 0, 0, 0, 0, 0);
            Check.bytes(x, bytes);
            Check.due("255 and " + value, x.read(), value < 128 ? 1 : -1);
            Check.due("told(4)", x.told(4), value < 128 ? 0 : 2);
            int five = 16 + (value >> 3 & 15);
            int passes = five < 31 ? 6 + five : 37 + ((value & 7) << 4);
            Check.due("passes", x.got(0, 0), value < 128 ? passes : 0);
        }
    }

    /** A byte behind 254 has eight bits, the highest too. */
    private static void highestBitBehind254() {
        PacketRows x = new PacketRows(1, 0);
        // 111 1111 0 | 1000 0 000 | 00: 14 passes.
        reads("254 and 128", x, List.of(254, 0b10000000, 0), 1, 0, 3);
        Check.got("254 and 128", x, 0, 14, 0, 0, 0);
        // 111 1111 0 | 0000 0 000 | 00: 6 passes.
        reads("254 and 0", x, List.of(254, 0, 0), 1, 0, 3);
        Check.got("254 and 0", x, 0, 6, 0, 0, 0);
    }

    /** "2 the byte behind a 255 has its highest bit 1", when that 255 is the head's last byte. */
    private static void highestBitBehindALast255() {
        for (int value = 0; value < 256; value++) {
            PacketRows x = new PacketRows(2, 0);
            Check.bytes(x, 0b11101111, 0b11110111, 255, value, 0);
            if (value < 128) {
                Check.reads("255 and " + value, x, 2, 0, 5);
                Check.got("255 and " + value, x, 0, 1, 2047, 0, 0);
            } else {
                Check.reads("255 and " + value, x, -1, 2, 0);
            }
        }
    }

    /** A head's first byte stands behind no 255: the byte 0 behind that belongs to the one before. */
    private static void highestBitOfTheNextHead() {
        PacketRows x = new PacketRows(2, 0);
        Check.bytes(x, 0b11101111, 0b11110111, 255, 0, 0b11001000, 0b00000010);
        Check.reads("behind 255 and 0", x, 2, 0, 6);
        Check.got("behind 255 and 0", x, 1, 1, 1025, 0, 0);
        Check.bytes(x, 0b11101111, 0b11110111, 255, 127, 0b11001000, 0b00000010);
        Check.reads("behind 255 and 127", x, 2, 0, 6);
        Check.got("behind 255 and 127", x, 1, 1, 1025, 0, 0);
    }

    /** "3 low at 31 at a node of ZERO planes that is not done". */
    private static void zerosUpTo30() {
        for (int zeros = 0; zeros <= 40; zeros++) {
            PacketRows x = new PacketRows(1, 0);
            List<Integer> bytes = Check.head("1 1 " + "0".repeat(zeros) + "1 0 0 101");
            if (zeros <= 30) {
                reads(zeros + " zero planes", x, bytes, 1, 0, bytes.size());
                Check.got(zeros + " zero planes", x, 0, 1, 5, zeros, 0);
            } else {
                reads(zeros + " zero planes", x, bytes, -1, 3, 0);
            }
        }
    }

    /** "at a node": the top one, one between and a block's own. */
    private static void zerosUpTo30AtEachNode() {
        for (int top = 0; top <= 30; top += 15) {
            for (int mid = top; mid <= 30; mid += 5) {
                String before = "1  1 1 1  " + "0".repeat(top) + "1" + "0".repeat(mid - top) + "1";
                PacketRows x = new PacketRows(1, 0);
                x.grid(0, 0, 1, 3, 1);
                List<Integer> good = Check.head(before + "0".repeat(30 - mid) + "1 0 0 101  0  0");
                reads("block at 30", x, good, 1, 0, good.size());
                Check.got("block at 30", x, 0, 1, 5, 30, 0);
                reads("block at 31", x, Check.head(before + "0".repeat(31 - mid) + "1 0 0 101  0  0"),
                        -1, 3, 0);
            }
            PacketRows y = new PacketRows(1, 0);
            y.grid(0, 0, 1, 3, 1);
            String before = "1  1 1 1  " + "0".repeat(top) + "1";
            reads("node between at 31", y, Check.head(before + "0".repeat(31 - top) + "1 1 0 0 101"),
                    -1, 3, 0);
        }
        PacketRows z = new PacketRows(1, 0);
        z.grid(0, 0, 1, 3, 1);
        reads("top at 31", z, Check.head("1  1 1 1  " + "0".repeat(31) + "1 1 1 0 0 101"), -1, 3, 0);
        // A second block begins where the node above was done, and has its own end at 31.
        PacketRows two = new PacketRows(1, 0);
        two.grid(0, 0, 1, 2, 1);
        String block0 = "1  1 1 " + "0".repeat(28) + "1 1 0 0 000  1 ";
        List<Integer> good = Check.head(block0 + "001 0 0 011");
        reads("second at 30", two, good, 1, 0, good.size());
        two.choose(0, 0, 0, 0, 1);
        Check.got("second at 30", two, 0, 1, 3, 30, 0);
        reads("second at 31", two, Check.head(block0 + "0001 0 0 011"), -1, 3, 0);
    }

    private static String passCode(int passes) {
        int rest = passes >= 37 ? 128 + passes - 37 : 32 + passes - 6;
        return passes == 1 ? "0" : passes == 2 ? "10" : passes == 4 ? "1101"
                : passes < 37 ? "1111" + Integer.toBinaryString(rest).substring(1)
                : "111111111" + Integer.toBinaryString(rest).substring(1);
    }

    /** "or G + L above 24", by growth: for each L there is. */
    private static void lengthsUpTo24ByGrowth() {
        for (int power = 0; power <= 7; power++) {
            String before = FIRST + passCode(1 << power);
            for (int width = 3 + power; width <= 26; width++) {
                PacketRows x = new PacketRows(1, 0);
                String grow = "1".repeat(width - 3 - power) + "0";
                List<Integer> bytes = Check.head(before + grow + "10".repeat(13).substring(0, width));
                if (width <= 24) {
                    reads("G + L is " + width, x, bytes, 1, 0, bytes.size());
                    int due = Integer.parseInt("10".repeat(13).substring(0, width), 2);
                    Check.got("G + L is " + width, x, 0, 1 << power, due, 0, 0);
                } else {
                    reads("G + L is " + width, x, bytes, -1, 3, 0);
                }
            }
        }
    }

    /** "or G + L above 24", by the passes alone, when G has stayed great. */
    private static void lengthsUpTo24ByPasses() {
        for (int power = 0; power <= 7; power++) {
            for (int growth = 23 - power; growth <= 24; growth++) {
                PacketRows x = new PacketRows(2, 0);
                List<Integer> bytes = Check.head(FIRST + "0" + "1".repeat(growth - 3) + "0"
                        + "0".repeat(growth));
                int width = growth + power;
                bytes.addAll(Check.head("1 1" + passCode(1 << power) + "0" + "0".repeat(width - 1)
                        + "1"));
                if (width <= 24) {
                    reads("G + L is " + width, x, bytes, 2, 0, bytes.size());
                    Check.got("G + L is " + width, x, 1, 1 << power, 1, 0, 0);
                } else {
                    reads("G + L is " + width, x, bytes, -2, 3, 0);
                }
            }
        }
    }

    /** "as soon as it is so": no byte behind the bit that makes it so is needed. */
    private static void asSoonAsItIsSo() {
        // Two bits and 31 zeros: the last of them is the first bit of the fifth byte.
        PacketRows x = new PacketRows(1, 0);
        reads("30 zeros, and the end", x, List.of(0b11000000, 0, 0, 0), -1, 1, 0);
        reads("31 zeros", x, List.of(0b11000000, 0, 0, 0, 0b01111111), -1, 3, 0);
        // In layer 7 there are 0000000 before: 9 bits, and 31 zeros to the end of the fifth byte.
        PacketRows y = new PacketRows(8, 0);
        List<Integer> seven = List.of(0, 0, 0, 0, 0, 0, 0);
        reads("31 zeros and no bit behind", y, with(seven, 0b10000000, 0b10000000, 0, 0, 0), -8, 3, 0);
        reads("a byte less", y, with(seven, 0b10000000, 0b10000000, 0, 0), -8, 1, 0);
        // 1 1 01 0, then 3, 8, 7 and 4 of the 22 ones.
        reads("25 by growth", x, List.of(0b11010111, 255, 127, 0b11111100), -1, 3, 0);
        reads("25 by growth, cut", x, List.of(0b11010111, 255, 127), -1, 1, 0);
        // G is 24 then: 1 1 10 tells two passes, and the fault is there at once.
        PacketRows z = new PacketRows(2, 0);
        List<Integer> great = Check.head(FIRST + "0" + "1".repeat(21) + "0" + "0".repeat(24));
        reads("25 by passes", z, with(great, 0b11100000), -2, 3, 0);
        reads("24 by passes, and the end", z, with(great, 0b11000000), -2, 1, 0);
        // G is 21 then: 8 passes make 24, 16 passes 25, before any bit of the length.
        PacketRows w = new PacketRows(2, 0);
        List<Integer> wide = Check.head("1 1 1 0" + "1".repeat(18) + "0" + "0".repeat(21));
        reads("8 passes, and the end", w, with(wide, 0b11111100, 0b01000000), -2, 1, 0);
        reads("8 passes with G at 21", w, with(wide, 0b11111100, 0b01000000, 0, 0, 0), 2, 0,
                wide.size() + 5);
        reads("16 passes with G at 21", w, with(wide, 0b11111101, 0b01000000), -2, 3, 0);
    }

    /** One fault is told, that of the first bit or byte that cannot be. */
    private static void theFirstFaultCounts() {
        PacketRows x = new PacketRows(2, 0);
        reads("2, then 1", x, List.of(255, 128), -1, 2, 0);
        reads("1 behind 255", x, List.of(255), -1, 1, 0);
        reads("3, then 2", x, List.of(0b11010111, 255, 127, 255, 255, 255), -1, 3, 0);
        reads("2 before 3", x, List.of(0b11010111, 255, 128, 255), -1, 2, 0);
        reads("a packet before", x, List.of(0, 255, 255), -2, 2, 0);
        reads("3 in the first, none behind", x, List.of(0b11000000, 0, 0, 0, 0, 255, 255), -1, 3, 0);
    }

    /** "(What the rest of a head's last byte .. holds besides .. is not looked at.)" */
    private static void restOfTheLastByte() {
        for (int rest = 0; rest < 128; rest++) {
            PacketRows x = new PacketRows(2, 0);
            reads("seven bits " + rest, x, List.of(rest, 127 - rest), 2, 0, 2);
            Check.got("seven bits " + rest, x, 0, 0, 0, 0, -1);
        }
        for (int rest = 0; rest < 64; rest++) {
            PacketRows x = new PacketRows(1, 0);
            // 1, FIRST above layer 0: the head is over.
            reads("six bits " + rest, x, List.of(0b10000000 | rest), 1, 0, 1);
            Check.got("six bits " + rest, x, 0, 0, 0, 0, -1);
        }
        for (int rest = 0; rest < 32; rest++) {
            PacketRows x = new PacketRows(2, 0);
            reads("five bits " + rest, x, List.of(0b11000100, 0b10100000 | rest, 0b11001100), 2, 0, 3);
            Check.got("five bits " + rest, x, 0, 1, 5, 3, 0);
            Check.got("five bits " + rest, x, 1, 1, 6, 3, 0);
        }
    }

    /** A last byte that its rest makes 255 is a last byte 255: a byte follows it. */
    private static void restThatMakes255() {
        PacketRows x = new PacketRows(2, 0);
        // 1 1 1 0 1111 | 111 0 1111 | 111111: two bits are the rest.
        for (int rest = 0; rest < 3; rest++) {
            Check.bytes(x, 0b11101111, 0b11101111, 0b11111100 | rest, 0b01000000);
            Check.reads("rest " + rest, x, 2, 0, 4);
            Check.got("rest " + rest, x, 0, 1, 1023, 0, 0);
        }
        Check.bytes(x, 0b11101111, 0b11101111, 255, 0b01000000);
        Check.reads("rest 3", x, -2, 1, 0);
        x.feed(1, 0);
        Check.reads("rest 3, and a byte behind", x, 2, 0, 5);
        Check.bytes(x, 0b11101111, 0b11101111, 255);
        Check.reads("rest 3, and the end", x, -1, 1, 0);
    }

    /** "or a byte behind 255 there, holds besides": its seven lower bits. */
    private static void byteBehindALast255() {
        for (int value = 0; value < 128; value++) {
            PacketRows x = new PacketRows(2, 0);
            Check.bytes(x, 0b11101111, 0b11110111, 255, value, 0b11001000, 0b00000010);
            Check.reads("a byte " + value, x, 2, 0, 6);
            Check.got("a byte " + value, x, 0, 1, 2047, 0, 0);
            Check.got("a byte " + value, x, 1, 1, 1025, 0, 0);
        }
    }

    /** "and what is behind the last head, is not looked at". */
    private static void behindTheLastHead() {
        for (int value = 0; value < 256; value++) {
            PacketRows x = new PacketRows(1, 0);
            Check.bytes(x, 0b11100101, value, 255, value);
            Check.reads("behind it " + value, x, 1, 0, 1);
            Check.got("behind it " + value, x, 0, 1, 5, 0, 0);
        }
        PacketRows x = new PacketRows(1, 0);
        Check.bytes(x, 0b11101111, 0b11110111, 255, 0, 255, 255);
        Check.reads("behind 255 and 0", x, 1, 0, 4);
    }

    /** "The bytes are READ: how many packets". */
    private static void howManyPackets() {
        for (int layers = 1; layers <= 8; layers++) {
            PacketRows x = new PacketRows(layers, 3);
            Check.bytes(x, new int[4 * layers]);
            Check.reads("all", x, 4 * layers, 0, 4 * layers);
            x.part(0, layers, 1, 1);
            Check.reads("resolution 0", x, layers, 0, layers);
            x.whole();
            x.feed(1, 0);
            Check.reads("a byte more", x, 4 * layers, 0, 4 * layers);
        }
    }

    /** "or NONE less the number of the packet with a fault": from the first to the last. */
    private static void numberOfThePacketWithAFault() {
        PacketRows x = new PacketRows(3, 1);
        for (int k = 0; k < 6; k++) {
            Check.bytes(x, new int[k]);
            Check.reads("fault 1 at " + k, x, -1 - k, 1, 0);
            x.feed(2, 0xFFFF);
            Check.reads("fault 2 at " + k, x, -1 - k, 2, 0);
            Check.bytes(x, new int[k]);
            // FIRST in any layer, and ZERO planes without end.
            x.feed(8, 0xC0);
            Check.reads("fault 3 at " + k, x, -1 - k, 3, 0);
        }
        Check.bytes(x, new int[6]);
        Check.reads("no fault", x, 6, 0, 6);
    }

    /** "(nothing is read then)": neither of the packets before it, nor what was read before. */
    private static void nothingIsReadThen() {
        int[][] tails = {{}, {255, 255}, {0b11000000, 0, 0, 0, 0}};
        for (int fault = 1; fault <= 3; fault++) {
            PacketRows x = new PacketRows(2, 1);
            x.part(1, 2, 4, 3);
            List<Integer> good = Check.head("1 1 01 0 0 101");
            good.addAll(Check.head("1 1 0 0 011"));
            reads("good", x, with(good, 0, 0), 4, 0, 5);
            Check.got("good", x, 0, 1, 5, 1, 0);
            Check.got("good", x, 1, 1, 3, 1, 0);
            reads("fault " + fault, x, with(good, tails[fault - 1]), -3, fault, 0);
            Check.got("nothing", x, 0, 0, 0, 0, -1);
            Check.got("nothing", x, 1, 0, 0, 0, -1);
            reads("good again", x, with(good, 0, 0), 4, 0, 5);
            Check.got("good again", x, 1, 1, 3, 1, 0);
        }
    }
}
