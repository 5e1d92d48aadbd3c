/** The edges that sentences of the document name, a method for each: promises 12 to 14. */
public final class EdgesOfBytesTest {
    private static final int MIN = Integer.MIN_VALUE;
    private static final int MAX = Integer.MAX_VALUE;

    public static void main(String[] args) {
        bytesMore();
        lowestFirst();
        bytesOfAnyLong();
        noneAbove6000();
        anotherN();
        bytesGo();
        byteThatThereIs();
        byteThatThereIsNone();
        Check.end();
    }

    /** "n bytes more, 1 to 8 .. how many there are". */
    private static void bytesMore() {
        PacketRows x = new PacketRows(1, 0);
        int all = 0;
        for (int n = 1; n <= 8; n++) {
            all += n;
            Check.due("feed(" + n + ")", x.feed(n, 0), all);
            Check.due("told(0)", x.told(0), all);
        }
        Check.due("write()", x.write(), 1);
        Check.due("behind what was written", x.feed(8, 0), 9);
        x.wipe();
        Check.due("behind none", x.feed(1, 0), 1);
    }

    /** "the lowest first". */
    private static void lowestFirst() {
        for (int n = 1; n <= 8; n++) {
            PacketRows x = new PacketRows(1, 0);
            x.feed(n, 0x8877665544332211L);
            for (int i = 0; i < n; i++) {
                Check.due("byteAt(" + i + ") of " + n, x.byteAt(i), 0x11 * (i + 1));
            }
            Check.due("byteAt(" + n + ")", x.byteAt(n), -1);
        }
    }

    /** Any long is such: what is above n bytes is not looked at, and bytes are 0 to 255. */
    private static void bytesOfAnyLong() {
        long[] longs = {0, -1, Long.MIN_VALUE, Long.MAX_VALUE, 255, 256, -256, 0x80L, 1L << 32};
        for (long value : longs) {
            for (int n = 1; n <= 8; n++) {
                PacketRows x = new PacketRows(1, 0);
                Check.due("feed", x.feed(n, value), n);
                long rest = value;
                for (int i = 0; i < n; i++) {
                    Check.due("byteAt(" + i + ") of " + value, x.byteAt(i), Math.floorMod(rest, 256));
                    rest = Math.floorDiv(rest, 256);
                }
            }
        }
    }

    /**
     * "NONE when there would be more than 6000", for each n at 6000 and on both sides of it. No
     * 512 calls come to 6000 bytes, so these are more than the document promises for.
     */
    private static void noneAbove6000() {
        for (int n = 1; n <= 8; n++) {
            PacketRows x = new PacketRows(1, 0);
            for (int i = 0; i < 749; i++) {
                x.feed(8, -1);
            }
            for (int i = 0; i < 8 - n; i++) {
                x.feed(1, 7);
            }
            Check.due("before", x.told(0), 6000 - n);
            if (n < 8) {
                Check.due("one more than that", x.feed(n + 1, 0), -1);
                Check.due("told(0)", x.told(0), 6000 - n);
                Check.due("byteAt(" + (6000 - n) + ")", x.byteAt(6000 - n), -1);
            }
            Check.due("up to 6000", x.feed(n, 0), 6000);
            Check.due("byteAt(5999)", x.byteAt(5999), 0);
            for (int more = 1; more <= 8; more++) {
                Check.due("with 6000", x.feed(more, 0), -1);
            }
            Check.due("told(0)", x.told(0), 6000);
            Check.due("byteAt(6000)", x.byteAt(6000), -1);
            Check.illegal("feed(0) with 6000", () -> x.feed(0, 0));
            Check.illegal("feed(9) with 6000", () -> x.feed(9, 0));
            Check.due("wipe()", x.wipe(), 6000);
            Check.due("feed(8)", x.feed(8, 0), 8);
        }
    }

    /** "IllegalArgumentException: another n". */
    private static void anotherN() {
        PacketRows x = new PacketRows(1, 0);
        x.write();
        for (int n : new int[] {0, 9, -1, 10, -8, 256 + 1, MIN, MAX}) {
            Check.illegal("feed(" + n + ")", () -> x.feed(n, 0x11));
        }
        Check.due("told(0)", x.told(0), 1);
        Check.due("byteAt(1)", x.byteAt(1), -1);
    }

    /** "The bytes go: how many they were", of none, of fed and of written ones. */
    private static void bytesGo() {
        PacketRows x = new PacketRows(4, 0);
        Check.due("wipe() of none", x.wipe(), 0);
        for (int n = 1; n <= 8; n++) {
            x.feed(n, -1);
            Check.due("wipe() of " + n, x.wipe(), n);
            Check.due("told(0)", x.told(0), 0);
            Check.due("byteAt(0)", x.byteAt(0), -1);
            Check.due("wipe() again", x.wipe(), 0);
        }
        x.write();
        Check.due("wipe() of written ones", x.wipe(), 4);
        Check.reads("no bytes", x, -1, 1, 0);
        x.feed(4, 0);
        x.read();
        x.wipe();
        Check.due("the last read() stays: told(5)", x.told(5), 4);
    }

    /** "Byte i". */
    private static void byteThatThereIs() {
        for (int value = 0; value < 256; value++) {
            PacketRows x = new PacketRows(1, 0);
            x.feed(3, value << 8);
            Check.due("byteAt(0)", x.byteAt(0), 0);
            Check.due("byteAt(1)", x.byteAt(1), value);
            Check.due("byteAt(2)", x.byteAt(2), 0);
        }
    }

    /** "NONE when there is none". */
    private static void byteThatThereIsNone() {
        for (int n = 0; n <= 8; n++) {
            PacketRows x = new PacketRows(1, 0);
            if (n > 0) {
                x.feed(n, -1);
                Check.due("byteAt(0)", x.byteAt(0), 255);
                Check.due("the last", x.byteAt(n - 1), 255);
            }
            for (int i : new int[] {n, n + 1, -1, 5999, 6000, 6001, MIN, MAX}) {
                Check.due("byteAt(" + i + ") of " + n, x.byteAt(i), -1);
            }
            // Bytes there were once are none any more.
            x.write();
            Check.due("byteAt(0)", x.byteAt(0), 0);
            Check.due("byteAt(1)", x.byteAt(1), -1);
        }
    }
}
