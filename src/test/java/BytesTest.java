/** Promises 12 to 14: feed, wipe, byteAt. */
public final class BytesTest {
    public static void main(String[] args) {
        feed();
        feedRefuses();
        feedLimit();
        wipe();
        byteAt();
        Check.end();
    }

    private static void feed() {
        PacketRows x = new PacketRows(1, 0);
        Check.due("feed(1)", x.feed(1, 0x1FFL), 1);
        Check.due("feed(8)", x.feed(8, 0x8070605040302010L), 9);
        Check.due("feed(3)", x.feed(3, -2L), 12);
        int[] want = {255, 0x10, 0x20, 0x30, 0x40, 0x50, 0x60, 0x70, 0x80, 254, 255, 255, -1};
        for (int i = 0; i < want.length; i++) {
            Check.due("byteAt(" + i + ")", x.byteAt(i), want[i]);
        }
        Check.due("told(0)", x.told(0), 12);
        for (int n = 1; n <= 8; n++) {
            PacketRows y = new PacketRows(1, 0);
            y.write();
            Check.due("feed(" + n + ")", y.feed(n, 0x0102030405060708L), 1 + n);
            for (int i = 0; i < n; i++) {
                Check.due("byteAt(" + (1 + i) + ")", y.byteAt(1 + i), 8 - i);
            }
            Check.due("byteAt(end)", y.byteAt(1 + n), -1);
        }
    }

    private static void feedRefuses() {
        PacketRows x = new PacketRows(1, 0);
        x.feed(2, 513);
        for (int n : new int[] {0, -1, 9, Integer.MAX_VALUE, Integer.MIN_VALUE}) {
            Check.illegal("feed(" + n + ")", () -> x.feed(n, 7));
        }
        Check.due("told(0)", x.told(0), 2);
        Check.due("byteAt(2)", x.byteAt(2), -1);
    }

    /** More calls than an object is promised for: no fewer come to 6000 bytes. */
    private static void feedLimit() {
        PacketRows x = new PacketRows(1, 0);
        for (int i = 1; i <= 749; i++) {
            Check.due("feed(8)", x.feed(8, i), 8 * i);
        }
        Check.due("feed(7)", x.feed(7, -1), 5999);
        Check.due("feed(2) with 5999", x.feed(2, 5), -1);
        Check.due("feed(8) with 5999", x.feed(8, 5), -1);
        Check.due("told(0)", x.told(0), 5999);
        Check.due("byteAt(5999)", x.byteAt(5999), -1);
        Check.due("feed(1) with 5999", x.feed(1, 5), 6000);
        Check.due("byteAt(5999)", x.byteAt(5999), 5);
        Check.due("feed(1) with 6000", x.feed(1, 6), -1);
        Check.illegal("feed(9) with 6000", () -> x.feed(9, 6));
        Check.due("told(0)", x.told(0), 6000);
        Check.due("byteAt(6000)", x.byteAt(6000), -1);
        Check.due("write()", x.write(), 1);
        Check.due("told(0)", x.told(0), 1);
    }

    private static void wipe() {
        PacketRows x = new PacketRows(1, 0);
        Check.due("wipe() of none", x.wipe(), 0);
        x.feed(5, 0x0504030201L);
        x.read();
        Check.due("wipe()", x.wipe(), 5);
        Check.due("told(0)", x.told(0), 0);
        Check.due("byteAt(0)", x.byteAt(0), -1);
        Check.due("wipe() again", x.wipe(), 0);
        Check.due("the last read stays", x.told(5), 1);
        Check.due("feed()", x.feed(1, 9), 1);
        Check.due("byteAt(0)", x.byteAt(0), 9);
        Check.due("byteAt(1)", x.byteAt(1), -1);
    }

    private static void byteAt() {
        PacketRows x = new PacketRows(1, 0);
        for (int i : new int[] {0, 1, -1, 6000, Integer.MAX_VALUE, Integer.MIN_VALUE}) {
            Check.due("byteAt(" + i + ") of none", x.byteAt(i), -1);
        }
        x.feed(2, 0xFF80);
        Check.due("byteAt(0)", x.byteAt(0), 128);
        Check.due("byteAt(1)", x.byteAt(1), 255);
        for (int i : new int[] {2, -1, 6000, Integer.MAX_VALUE, Integer.MIN_VALUE}) {
            Check.due("byteAt(" + i + ")", x.byteAt(i), -1);
        }
    }
}
