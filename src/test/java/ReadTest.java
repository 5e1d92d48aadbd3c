import java.util.Arrays;
import java.util.List;

/** Promise 15: read, of bytes made by hand and of all beginnings of written ones. */
public final class ReadTest {
    private static final String FIRST_BLOCK = "1 1 1 ";

    public static void main(String[] args) {
        good();
        noBytes();
        bytesEnd();
        stuffingBroken();
        behindTheHead();
        byteBehind255AtTheEnd();
        zerosTooGreat();
        lengthTooGreat();
        lengthTooGreatByPasses();
        firstFaultCounts();
        faultOfALaterPacket();
        nothingIsReadWithAFault();
        firstNotAboveTheLayer();
        firstBitWithoutBlocks();
        toldAndReadStandApart();
        allBeginnings();
        Check.end();
    }

    private static void good() {
        PacketRows x = new PacketRows(2, 0);
        // Second head: 1, a bit 1, two passes 10, no growth 0, four bits 0111.
        Check.bytes(x, 0b11000100, 0b10100000, 0b11100011, 0b10000000);
        Check.reads("good", x, 2, 0, 4);
        Check.got("good", x, 0, 1, 5, 3, 0);
        Check.got("good", x, 1, 2, 7, 3, 0);
    }

    private static void noBytes() {
        PacketRows x = new PacketRows(2, 1);
        Check.reads("no bytes", x, -1, 1, 0);
        x.feed(3, 0);
        Check.reads("three of four", x, -4, 1, 0);
        x.feed(1, 0);
        Check.reads("four of four", x, 4, 0, 4);
        x.feed(1, 255);
        Check.reads("behind the last head", x, 4, 0, 4);
    }

    private static void bytesEnd() {
        PacketRows x = new PacketRows(1, 0);
        String head = FIRST_BLOCK + "1111 11111 1111111 110 010101010101";
        List<Integer> bytes = Check.head(head);
        for (int n = 0; n < bytes.size(); n++) {
            Check.bytes(x, bytes.subList(0, n));
            Check.reads("of " + n + " bytes", x, -1, 1, 0);
        }
        Check.bytes(x, bytes);
        Check.reads("all bytes", x, 1, 0, bytes.size());
        Check.got("all bytes", x, 0, 164, 0b010101010101, 0, 0);
    }

    private static void stuffingBroken() {
        PacketRows x = new PacketRows(1, 0);
        Check.bytes(x, 255, 128);
        Check.reads("255 128", x, -1, 2, 0);
        Check.bytes(x, 255, 255);
        Check.reads("255 255", x, -1, 2, 0);
        Check.bytes(x, 255, 127);
        Check.reads("255 127", x, -1, 1, 0);
        Check.bytes(x, 255);
        Check.reads("255", x, -1, 1, 0);
        // The first byte comes out as 255, so the second one has seven bits.
        Check.bytes(x, Check.head(FIRST_BLOCK + "1111 10000 0 0000101"));
        Check.reads("seven bits", x, 1, 0, 3);
        Check.got("seven bits", x, 0, 22, 5, 0, 0);
    }

    private static void behindTheHead() {
        PacketRows x = new PacketRows(2, 0);
        Check.bytes(x, 0b01111111, 0b01010101);
        Check.reads("the rest of the byte", x, 2, 0, 2);
        // 1, FIRST is above layer 0; then 1, FIRST is 1, no zeros, one pass, 3 bits: 8 bits.
        Check.bytes(x, 0b10111111, 0b11100101, 255, 255);
        Check.reads("the rest of the byte", x, 2, 0, 2);
        Check.got("the rest of the byte", x, 1, 1, 5, 0, 1);
    }

    private static void byteBehind255AtTheEnd() {
        PacketRows x = new PacketRows(2, 0);
        Check.bytes(x, 239, 247, 255, 0, 0);
        Check.reads("a byte 0", x, 2, 0, 5);
        Check.got("a byte 0", x, 0, 1, 2047, 0, 0);
        Check.bytes(x, 239, 247, 255, 127, 0);
        Check.reads("seven bits not looked at", x, 2, 0, 5);
        Check.bytes(x, 239, 247, 255);
        Check.reads("no byte behind", x, -1, 1, 0);
        Check.bytes(x, 239, 247, 255, 0);
        Check.reads("no second head", x, -2, 1, 0);
        Check.bytes(x, 239, 247, 255, 128, 0);
        Check.reads("highest bit 1 behind 255", x, -1, 2, 0);
        // The head is over in the midst of a byte that is 255: a byte follows all the same.
        Check.bytes(x, 0xF7, 0xEF, 0xFF, 0, 0);
        Check.reads("255 by its rest", x, 2, 0, 5);
        Check.got("255 by its rest", x, 0, 2, 1023, 0, 0);
        Check.bytes(x, 0xF7, 0xEF, 0xFC, 0, 255);
        Check.reads("not 255", x, 2, 0, 4);
    }

    private static void zerosTooGreat() {
        PacketRows x = new PacketRows(1, 0);
        String zeros30 = "0".repeat(30);
        Check.bytes(x, Check.head("1 1 " + zeros30 + "1 0 0 111"));
        Check.reads("30 zero planes", x, 1, 0, 5);
        Check.got("30 zero planes", x, 0, 1, 7, 30, 0);
        // The fault is there with the 31st 0: no bit behind it is asked for.
        Check.bytes(x, Check.head("1 1 " + zeros30 + "0"));
        Check.due("32 and 1 bits", x.told(0), 5);
        Check.reads("31 zero planes", x, -1, 3, 0);
        Check.bytes(x, Check.head("1 1 " + zeros30));
        Check.reads("30 zeros, then the end", x, -1, 1, 0);
        PacketRows y = new PacketRows(1, 0);
        y.grid(0, 0, 1, 2, 1);
        // 1, FIRST of top and block 0; top's zeros to 20, block's 10 more and one.
        String to30 = "1 1 1 " + "0".repeat(20) + "1" + "0".repeat(10);
        Check.bytes(y, Check.head(to30 + "1 0 0 000  0"));
        Check.reads("30 down the tree", y, 1, 0, 6);
        Check.got("30 down the tree", y, 0, 1, 0, 30, 0);
        Check.bytes(y, Check.head(to30 + "0"));
        Check.reads("31 down the tree", y, -1, 3, 0);
        // 1, FIRST is 7, and 31 zeros fill five bytes: no bit behind them is there to be asked for.
        PacketRows z = new PacketRows(8, 0);
        Check.bytes(z, 0, 0, 0, 0, 0, 0, 0, 0b10000000, 0b10000000, 0, 0, 0);
        Check.reads("as soon as it is so", z, -8, 3, 0);
        z.wipe();
        z.feed(8, 0x8000000000000000L);
        z.feed(3, 0x000080);
        Check.reads("a byte before", z, -8, 1, 0);
    }

    private static void lengthTooGreat() {
        PacketRows x = new PacketRows(1, 0);
        // One pass: G may grow by 21 to 24 bits.
        Check.bytes(x, Check.head(FIRST_BLOCK + "0 " + "1".repeat(21) + "0" + "1".repeat(24)));
        Check.due("read()", x.read(), 1);
        Check.got("24 bits", x, 0, 1, (1 << 24) - 1, 0, 0);
        Check.bytes(x, Check.head(FIRST_BLOCK + "0 " + "1".repeat(22)));
        Check.reads("25 bits", x, -1, 3, 0);
        Check.bytes(x, Check.head(FIRST_BLOCK + "0 " + "1".repeat(21) + "0"));
        Check.reads("24 bits that are not there", x, -1, 1, 0);
        // 164 passes: G may grow by 14.
        String many = FIRST_BLOCK + "1111 11111 1111111 ";
        Check.bytes(x, Check.head(many + "1".repeat(14) + "0" + "01".repeat(12)));
        Check.due("read()", x.read(), 1);
        Check.got("24 bits", x, 0, 164, 0x555555, 0, 0);
        Check.bytes(x, Check.head(many + "1".repeat(15)));
        Check.reads("25 bits", x, -1, 3, 0);
    }

    private static void lengthTooGreatByPasses() {
        PacketRows x = new PacketRows(2, 0);
        List<Integer> bytes = Check.head(FIRST_BLOCK + "0 " + "1".repeat(21) + "0" + "0".repeat(24));
        // G is 24 then: two passes in the next layer make 25, before any bit of the length.
        List<Integer> second = Check.head("1 1 10");
        bytes.addAll(second);
        Check.bytes(x, bytes);
        Check.reads("by two passes", x, -2, 3, 0);
        bytes = Check.head(FIRST_BLOCK + "0 " + "1".repeat(21) + "0" + "0".repeat(24));
        bytes.addAll(Check.head("1 1 0 0" + "1".repeat(24)));
        Check.bytes(x, bytes);
        Check.due("read()", x.read(), 2);
        Check.got("by one pass", x, 1, 1, (1 << 24) - 1, 0, 0);
        // Eight bits: 1 1 1111 00; the next byte, with the rest of the passes, is not there.
        bytes = Check.head(FIRST_BLOCK + "0 " + "1".repeat(21) + "0" + "0".repeat(24));
        bytes.add(0b11111100);
        Check.bytes(x, bytes);
        Check.reads("passes that are not there", x, -2, 1, 0);
        // 1 1 10 0000: the passes are two, and all bits behind them could be read.
        bytes.remove(bytes.size() - 1);
        bytes.add(0b11100000);
        bytes.add(0);
        bytes.add(0);
        bytes.add(0);
        bytes.add(0);
        Check.bytes(x, bytes);
        Check.reads("at once", x, -2, 3, 0);
    }

    private static void firstFaultCounts() {
        PacketRows x = new PacketRows(1, 0);
        // Fault 3 comes with the last bit of 255, before the broken byte behind it.
        String bits = FIRST_BLOCK + "0 " + "1".repeat(22);
        List<Integer> bytes = Check.head(bits);
        Check.due("a 255 in it", bytes.get(1), 255);
        Check.bytes(x, 239, 255, 128);
        Check.reads("fault 2 before 3", x, -1, 2, 0);
        Check.bytes(x, bytes);
        x.feed(2, 65535);
        Check.reads("fault 3 before 2", x, -1, 3, 0);
    }

    private static void faultOfALaterPacket() {
        PacketRows x = new PacketRows(8, 3);
        for (int k = 0; k < 32; k++) {
            Check.bytes(x, new int[k]);
            Check.reads("packet " + k, x, -1 - k, 1, 0);
            x.feed(2, 65535);
            Check.reads("packet " + k, x, -1 - k, 2, 0);
        }
        Check.bytes(x, new int[32]);
        Check.reads("all", x, 32, 0, 32);
    }

    private static void nothingIsReadWithAFault() {
        PacketRows x = new PacketRows(2, 0);
        Check.bytes(x, 0b11100101, 0);
        Check.reads("good", x, 2, 0, 2);
        Check.got("good", x, 0, 1, 5, 0, 0);
        Check.bytes(x, 0b11100110);
        Check.reads("the second is not there", x, -2, 1, 0);
        Check.got("nothing is read", x, 0, 0, 0, 0, -1);
        Check.bytes(x, 0b11100110, 0);
        Check.reads("good again", x, 2, 0, 2);
        Check.got("good again", x, 0, 1, 6, 0, 0);
        Check.bytes(x, 0, 0);
        Check.reads("good, but empty", x, 2, 0, 2);
        Check.got("what was read before is gone", x, 0, 0, 0, 0, -1);
    }

    private static void firstNotAboveTheLayer() {
        PacketRows x = new PacketRows(3, 0);
        // Layer 1 tells FIRST as 0: its first passes are in layer 1.
        Check.bytes(x, 0, 0b11100101, 0b11000100);
        Check.reads("FIRST below the layer", x, 3, 0, 3);
        Check.got("FIRST below the layer", x, 0, 0, 0, 0, 1);
        Check.got("FIRST below the layer", x, 1, 1, 5, 0, 1);
        Check.got("FIRST below the layer", x, 2, 1, 2, 0, 1);
    }

    private static void firstBitWithoutBlocks() {
        PacketRows x = new PacketRows(2, 0);
        // The first bit is 1, but no block comes; the tree has gone up to 1 all the same.
        Check.bytes(x, 0b10000000, 0b11100011);
        Check.reads("no block comes", x, 2, 0, 2);
        Check.got("no block comes", x, 1, 1, 3, 0, 1);
        // A block that has begun, without passes in a packet that is not empty.
        Check.bytes(x, 0b11100011, 0b10000000);
        Check.reads("nor here", x, 2, 0, 2);
        Check.got("nor here", x, 0, 1, 3, 0, 0);
        Check.got("nor here", x, 1, 0, 0, 0, 0);
    }

    private static void toldAndReadStandApart() {
        PacketRows x = new PacketRows(1, 0);
        x.passes(0, 3, 4);
        x.zero(5);
        x.write();
        int first = x.byteAt(0);
        Check.bytes(x, 0b11100101);
        Check.reads("other bytes", x, 1, 0, 1);
        Check.got("other bytes", x, 0, 1, 5, 0, 0);
        x.write();
        Check.due("told stays", x.byteAt(0), first);
        Check.got("read stays", x, 0, 1, 5, 0, 0);
        x.read();
        Check.got("told is read", x, 0, 3, 4, 5, 0);
    }

    /** Whatever is left of good bytes is refused at the packet in which it ends. */
    private static void allBeginnings() {
        PacketRows x = new PacketRows(3, 1);
        x.grid(0, 1, 2, 3, 2);
        for (int i = 0; i < 12; i++) {
            x.choose(0, 1, i % 2, i % 3, i % 6);
            x.zero(i * 5 % 31);
            x.passes(i % 3, 1 + i * 13, 65535 >> i);
        }
        int size = x.write();
        int[] bytes = new int[size];
        for (int i = 0; i < size; i++) {
            bytes[i] = x.byteAt(i);
        }
        int packets = x.packets();
        for (int n = 0; n < size; n++) {
            int k = packets - 1;
            while (x.packet(k, 4) > n) {
                k--;
            }
            Check.bytes(x, Arrays.copyOf(bytes, n));
            Check.reads("beginning of " + n, x, -1 - k, 1, 0);
        }
        Check.bytes(x, bytes);
        Check.reads("all", x, packets, 0, size);
    }
}
