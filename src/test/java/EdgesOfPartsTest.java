/** The edges that sentences of the document name, a method for each: orders, promises 7 to 10. */
public final class EdgesOfPartsTest {
    private static final int MIN = Integer.MIN_VALUE;
    private static final int MAX = Integer.MAX_VALUE;

    /** The packets of two layers, two resolutions and two components with one and two precincts. */
    private static final String[] ORDERS = {
        "0000 0010 0011 0100 0101 0110 1000 1010 1011 1100 1101 1110",
        "0000 0010 0011 1000 1010 1011 0100 0101 0110 1100 1101 1110",
        "0000 1000 0010 1010 0011 1011 0100 1100 0110 1110 0101 1101",
        "0000 1000 0100 1100 0010 1010 0110 1110 0101 1101 0011 1011",
        "0000 1000 0100 1100 0101 1101 0010 1010 0110 1110 0011 1011"
    };

    public static void main(String[] args) {
        ordersGoRound();
        layersBelowTheEnd();
        resolutionsBelowTheEnd();
        componentsBelowTheEnd();
        endsAboveWhatThereIs();
        packetOfAPartBefore();
        packetOfAPrecinctThatThereIsNot();
        withoutPartsThereIsOne();
        inNoPart();

        aPartMore();
        noneWhenThereAreSix();
        orderThatIsNotSuch();
        endsThatAreNotSuch();

        thereAreNoParts();
        packetsOfAllParts();
        mostPackets();

        packetThatThereIsNot();
        whatThatThereIsNot();
        beginsBeforeWrite();
        beginsInWhatWasWritten();
        beginsWhenSomethingWasTold();
        beginsWhenNothingWasTold();
        Check.end();
    }

    private static PacketRows picture() {
        PacketRows x = new PacketRows(2, 1);
        x.component();
        x.grid(0, 1, 2, 1, 1);
        x.grid(1, 0, 2, 1, 1);
        return x;
    }

    /** All packets as layer, resolution, component and precinct, a digit each. */
    private static void places(String what, PacketRows x, String want) {
        StringBuilder got = new StringBuilder();
        for (int k = 0; k < x.packets(); k++) {
            got.append(k == 0 ? "" : " ");
            for (int axis = 0; axis < 4; axis++) {
                got.append(x.packet(k, axis));
            }
        }
        Check.due(what + ": " + got + " for " + want, got.toString().equals(want) ? 1 : 0, 1);
    }

    /** "ORDERS go round within each other, the first letter slowest", 0 to 4. */
    private static void ordersGoRound() {
        for (int order = 0; order <= 4; order++) {
            PacketRows x = picture();
            x.part(order, 2, 2, 2);
            places("order " + order, x, ORDERS[order]);
        }
    }

    /** "layers .. below these". */
    private static void layersBelowTheEnd() {
        for (int order = 0; order <= 4; order++) {
            for (int end = 1; end <= 8; end++) {
                PacketRows x = new PacketRows(8, 0);
                x.part(order, end, 4, 3);
                Check.due("layers below " + end, x.packets(), end);
                Check.due("the last", x.packet(end - 1, 0), end - 1);
            }
        }
    }

    /** "resolutions .. below these". */
    private static void resolutionsBelowTheEnd() {
        for (int order = 0; order <= 4; order++) {
            for (int end = 1; end <= 4; end++) {
                PacketRows x = new PacketRows(1, 3);
                x.part(order, 8, end, 3);
                Check.due("resolutions below " + end, x.packets(), end);
                Check.due("the last", x.packet(end - 1, 1), end - 1);
            }
        }
    }

    /** "components below these". */
    private static void componentsBelowTheEnd() {
        for (int order = 0; order <= 4; order++) {
            for (int end = 1; end <= 3; end++) {
                PacketRows x = new PacketRows(1, 0);
                x.component();
                x.component();
                x.part(order, 8, 4, end);
                Check.due("components below " + end, x.packets(), end);
                Check.due("the last", x.packet(end - 1, 2), end - 1);
            }
        }
    }

    /** Ends may be above what the picture has; what comes later is below them all the same. */
    private static void endsAboveWhatThereIs() {
        for (int order = 0; order <= 4; order++) {
            PacketRows x = new PacketRows(1, 0);
            Check.due("part()", x.part(order, 8, 4, 3), 1);
            places("one packet", x, "0000");
            x.component();
            places("a component more", x, "0000 0010");
            x.component();
            places("a component more", x, "0000 0010 0020");
        }
    }

    /** "a packet that was in a part before .. is left out". */
    private static void packetOfAPartBefore() {
        PacketRows x = picture();
        x.part(1, 1, 1, 2);
        places("first part", x, "0000 0010 0011");
        x.part(1, 1, 1, 2);
        places("nothing more", x, "0000 0010 0011");
        x.part(1, 2, 1, 2);
        places("layer 1 alone", x, "0000 0010 0011 1000 1010 1011");
        x.part(4, 1, 2, 1);
        places("resolution 1 alone", x, "0000 0010 0011 1000 1010 1011 0100 0101");
        x.part(0, 2, 2, 2);
        places("the rest", x, "0000 0010 0011 1000 1010 1011 0100 0101 0110 1100 1101 1110");
        x.part(3, 8, 4, 3);
        places("no rest", x, "0000 0010 0011 1000 1010 1011 0100 0101 0110 1100 1101 1110");
        Check.due("write()", x.write(), 12);
    }

    /** "or of a precinct that there is not, is left out". */
    private static void packetOfAPrecinctThatThereIsNot() {
        for (int order = 0; order <= 4; order++) {
            PacketRows x = new PacketRows(1, 0);
            x.component();
            x.part(order, 1, 1, 2);
            x.grid(0, 0, 4, 1, 1);
            x.grid(1, 0, 3, 1, 1);
            String all = order == 2 || order == 3 ? "0000 0010 0001 0011 0002 0012 0003"
                    : "0000 0001 0002 0003 0010 0011 0012";
            places("order " + order, x, all);
            x.grid(0, 0, 1, 1, 1);
            places("order " + order, x, "0000 0010 0011 0012");
        }
    }

    /** "Without parts there is one: order 0, all." */
    private static void withoutPartsThereIsOne() {
        PacketRows x = picture();
        places("without parts", x, ORDERS[0]);
        Check.due("it is not counted", x.told(2), 0);
        x.part(4, 1, 1, 1);
        places("one part", x, "0000");
        x.whole();
        places("without parts again", x, ORDERS[0]);
    }

    /** "(What is in no part is not written.)" */
    private static void inNoPart() {
        PacketRows x = new PacketRows(2, 1);
        x.component();
        int[][] blocks = {{0, 0}, {0, 1}, {1, 0}, {1, 1}};
        for (int[] b : blocks) {
            x.choose(b[0], b[1], 0, 0, 0);
            x.passes(0, 1, 1);
            x.passes(1, 1, 2);
        }
        x.part(0, 1, 1, 1);
        Check.heads("packet 0000 alone", x, "1 1 1 0 0 001");
        x.part(0, 2, 1, 1);
        Check.heads("and its layer 1", x, "1 1 1 0 0 001", "1 1 0 0 010");
        x.read();
        for (int[] b : blocks) {
            x.choose(b[0], b[1], 0, 0, 0);
            int in = b[0] + b[1] == 0 ? 1 : 0;
            Check.got("read of it", x, 0, in, in, 0, in - 1);
        }
    }

    /** "A part more: how many there are". */
    private static void aPartMore() {
        PacketRows x = new PacketRows(2, 1);
        for (int n = 1; n <= 6; n++) {
            Check.due("told(2)", x.told(2), n - 1);
            Check.due("part()", x.part(0, 1, 1, 1), n);
            Check.due("told(2)", x.told(2), n);
        }
    }

    /** "NONE when there are 6". */
    private static void noneWhenThereAreSix() {
        PacketRows x = new PacketRows(2, 1);
        for (int n = 1; n <= 5; n++) {
            x.part(0, 1, 1, 1);
        }
        Check.due("the sixth", x.part(1, 2, 1, 1), 6);
        places("six", x, "0000 1000");
        x.write();
        for (int i = 0; i < 2; i++) {
            Check.due("the seventh", x.part(0, 8, 4, 3), -1);
            Check.due("told(2)", x.told(2), 6);
            places("six", x, "0000 1000");
            Check.due("nothing was told", x.packet(1, 4), 1);
        }
        Check.due("whole()", x.whole(), 6);
        Check.due("the first again", x.part(0, 1, 2, 1), 1);
        places("one", x, "0000 0100");
    }

    /** "IllegalArgumentException: order is not 0 to 4". */
    private static void orderThatIsNotSuch() {
        PacketRows x = new PacketRows(1, 0);
        Check.due("order 0", x.part(0, 1, 1, 1), 1);
        Check.due("order 4", x.part(4, 1, 1, 1), 2);
        for (int w : new int[] {-1, 5, -2, 6, MIN, MAX}) {
            Check.illegal("order " + w, () -> x.part(w, 1, 1, 1));
        }
        Check.due("told(2)", x.told(2), 2);
    }

    /** "layers not 1 to 8, resolutions not 1 to 4, components not 1 to 3". */
    private static void endsThatAreNotSuch() {
        int[] most = {8, 4, 3};
        for (int axis = 0; axis < 3; axis++) {
            PacketRows x = new PacketRows(1, 0);
            int[] good = {1, 1, 1};
            Check.due("the least", x.part(0, good[0], good[1], good[2]), 1);
            good[axis] = most[axis];
            Check.due("the most", x.part(0, good[0], good[1], good[2]), 2);
            for (int w : new int[] {0, most[axis] + 1, -1, MIN, MAX}) {
                int[] wrong = {1, 1, 1};
                wrong[axis] = w;
                Check.illegal("end " + axis + " is " + w,
                        () -> x.part(0, wrong[0], wrong[1], wrong[2]));
            }
            Check.due("told(2)", x.told(2), 2);
            for (int n = 3; n <= 6; n++) {
                x.part(0, 1, 1, 1);
            }
            // With 6 parts a wrong one is refused as before, a good one is NONE.
            int[] wrong = {1, 1, 1};
            wrong[axis] = 0;
            Check.illegal("with 6", () -> x.part(0, wrong[0], wrong[1], wrong[2]));
            Check.due("with 6", x.part(0, 1, 1, 1), -1);
        }
    }

    /** "There are no parts: how many there were", of none to six. */
    private static void thereAreNoParts() {
        for (int n = 0; n <= 6; n++) {
            PacketRows x = new PacketRows(2, 0);
            for (int i = 0; i < n; i++) {
                x.part(0, 1, 1, 1);
            }
            Check.due("packets()", x.packets(), n == 0 ? 2 : 1);
            Check.due("whole()", x.whole(), n);
            Check.due("told(2)", x.told(2), 0);
            Check.due("packets()", x.packets(), 2);
            Check.due("whole()", x.whole(), 0);
        }
    }

    /** "How many packets all parts have": the least is one. */
    private static void packetsOfAllParts() {
        PacketRows x = new PacketRows(8, 3);
        Check.due("all", x.packets(), 32);
        x.part(0, 1, 1, 1);
        Check.due("the least", x.packets(), 1);
        x.part(1, 2, 1, 1);
        Check.due("one more", x.packets(), 2);
        x.part(1, 1, 2, 1);
        Check.due("and one more", x.packets(), 3);
    }

    /** The greatest picture: 8 layers, 4 resolutions, 3 components, 4 precincts. */
    private static void mostPackets() {
        for (int order = -1; order <= 4; order++) {
            PacketRows x = new PacketRows(8, 3);
            x.component();
            x.component();
            for (int c = 0; c < 3; c++) {
                for (int r = 0; r < 4; r++) {
                    x.grid(c, r, 4, 1, 1);
                }
            }
            if (order >= 0) {
                x.part(order, 8, 4, 3);
            }
            Check.due("packets()", x.packets(), 384);
            String last = "" + x.packet(383, 0) + x.packet(383, 1) + x.packet(383, 2)
                    + x.packet(383, 3);
            Check.due("the last is " + last, last.equals("7323") ? 1 : 0, 1);
            Check.outOfBounds("packet(384)", () -> x.packet(384, 0));
            Check.due("write()", x.write(), 384);
            Check.due("packet(383, 4)", x.packet(383, 4), 383);
            Check.due("read()", x.read(), 384);
        }
    }

    /** "IndexOutOfBoundsException: there is no such packet". */
    private static void packetThatThereIsNot() {
        PacketRows x = new PacketRows(2, 1);
        for (int n : new int[] {4, 2}) {
            int packets = n;
            for (int what = 0; what <= 4; what++) {
                int w = what;
                Check.due("packet(0, " + w + ")", x.packet(0, w), w == 4 ? -1 : 0);
                Check.due("the last", x.packet(n - 1, w), w == 4 ? -1 : w == 0 ? 1
                        : w == 1 && packets == 4 ? 1 : 0);
                for (int k : new int[] {-1, packets, packets + 1, MIN, MAX}) {
                    Check.outOfBounds("packet(" + k + ", " + w + ")", () -> x.packet(k, w));
                }
            }
            x.part(0, 2, 1, 1);
        }
    }

    /** "IndexOutOfBoundsException: there is no such .. what". */
    private static void whatThatThereIsNot() {
        PacketRows x = new PacketRows(1, 0);
        for (int i = 0; i < 2; i++) {
            for (int w : new int[] {-1, 5, -2, 6, MIN, MAX}) {
                Check.outOfBounds("packet(0, " + w + ")", () -> x.packet(0, w));
                Check.outOfBounds("packet(1, " + w + ")", () -> x.packet(1, w));
            }
            x.write();
        }
        Check.due("packet(0, 4)", x.packet(0, 4), 0);
    }

    /** "NONE before write()", whatever was fed or read. */
    private static void beginsBeforeWrite() {
        PacketRows x = new PacketRows(2, 0);
        Check.due("new", x.packet(0, 4), -1);
        x.feed(2, 0);
        Check.due("fed", x.packet(1, 4), -1);
        x.read();
        Check.due("read", x.packet(1, 4), -1);
        x.wipe();
        Check.due("wiped", x.packet(1, 4), -1);
        x.write();
        Check.due("written", x.packet(0, 4), 0);
        Check.due("written", x.packet(1, 4), 1);
    }

    /** "where its head begins in what was written last". */
    private static void beginsInWhatWasWritten() {
        PacketRows x = new PacketRows(3, 0);
        x.feed(5, 0);
        Check.heads("empty ones", x, "0", "0", "0");
        x.passes(0, 1, 15);
        x.passes(1, 1, 15);
        Check.heads("with passes", x, "1 1 1 0 10 1111", "1 1 0 0 1111", "0");
        Check.due("packet(1, 4)", x.packet(1, 4), 2);
        Check.due("packet(2, 4)", x.packet(2, 4), 3);
        x.passes(0, 0, 0);
        Check.heads("written last", x, "0", "1 01 1 0 10 1111", "0");
        Check.due("packet(1, 4)", x.packet(1, 4), 1);
        Check.due("packet(2, 4)", x.packet(2, 4), 3);
    }

    /** "or when something was told since": by each call that tells, and until the next write(). */
    private static void beginsWhenSomethingWasTold() {
        for (int which = 0; which < 6; which++) {
            PacketRows x = new PacketRows(2, 0);
            x.passes(0, 1, 1);
            x.write();
            Check.due("written", x.packet(1, 4), 1);
            switch (which) {
                case 0 -> x.component();
                case 1 -> x.grid(0, 0, 1, 1, 1);
                case 2 -> x.passes(0, 1, 1);
                case 3 -> x.zero(0);
                case 4 -> x.part(0, 8, 4, 3);
                default -> x.whole();
            }
            Check.due("call " + which + " tells", x.packet(0, 4), -1);
            Check.due("call " + which + " tells", x.packet(1, 4), -1);
            x.read();
            Check.due("as long as it is not written", x.packet(1, 4), -1);
            x.write();
            Check.due("written again", x.packet(1, 4), 1);
        }
    }

    /** Calls that ask, choose or handle bytes tell nothing, nor do those that are refused. */
    private static void beginsWhenNothingWasTold() {
        PacketRows x = new PacketRows(2, 0);
        x.component();
        x.component();
        for (int n = 0; n < 6; n++) {
            x.part(0, 8, 4, 3);
        }
        x.write();
        Check.due("component() with 3", x.component(), -1);
        Check.due("part() with 6", x.part(0, 1, 1, 1), -1);
        Check.outOfBounds("grid", () -> x.grid(3, 0, 1, 1, 1));
        Check.illegal("grid", () -> x.grid(0, 0, 0, 1, 1));
        Check.outOfBounds("choose", () -> x.choose(0, 0, 0, 0, 1));
        Check.outOfBounds("passes", () -> x.passes(2, 1, 1));
        Check.illegal("passes", () -> x.passes(0, 165, 1));
        Check.illegal("zero", () -> x.zero(31));
        Check.illegal("part", () -> x.part(5, 1, 1, 1));
        Check.illegal("feed", () -> x.feed(0, 0));
        x.choose(2, 0, 0, 0, 0);
        x.packets();
        x.byteAt(0);
        x.got(0, 0);
        x.told(0);
        Check.due("after calls that ask", x.packet(5, 4), 5);
        x.feed(3, 255);
        Check.due("after feed()", x.packet(5, 4), 5);
        x.read();
        Check.due("after read()", x.packet(5, 4), 5);
        x.wipe();
        Check.due("after wipe()", x.packet(5, 4), 5);
        x.read();
        Check.due("after a read() with a fault", x.packet(5, 4), 5);
    }
}
