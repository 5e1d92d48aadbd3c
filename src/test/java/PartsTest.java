import java.util.ArrayList;
import java.util.List;

/** Promises 7 to 10: part, whole, packets, packet. */
public final class PartsTest {
    public static void main(String[] args) {
        part();
        partRefuses();
        whole();
        partsGrowWithThePicture();
        ordersByHand();
        ordersByNumbers();
        partsLeaveOutWhatWasBefore();
        packetRefuses();
        headBegins();
        Check.end();
    }

    private static void part() {
        PacketRows x = new PacketRows(2, 1);
        for (int n = 1; n <= 6; n++) {
            Check.due("part()", x.part(n % 5, 1, 1, 1), n);
            Check.due("told(2)", x.told(2), n);
        }
        Check.due("packets()", x.packets(), 1);
        Check.due("part() with 6", x.part(0, 8, 4, 3), -1);
        Check.due("told(2)", x.told(2), 6);
        Check.due("packets()", x.packets(), 1);
        Check.illegal("part() with 6, wrong", () -> x.part(5, 1, 1, 1));
    }

    private static void partRefuses() {
        PacketRows x = new PacketRows(2, 1);
        int[] wrong = {-1, 9, Integer.MAX_VALUE, Integer.MIN_VALUE};
        for (int w : wrong) {
            Check.illegal("order " + w, () -> x.part(w, 1, 1, 1));
            Check.illegal("layers " + w, () -> x.part(0, w, 1, 1));
            Check.illegal("resolutions " + w, () -> x.part(0, 1, w, 1));
            Check.illegal("components " + w, () -> x.part(0, 1, 1, w));
        }
        Check.illegal("order 5", () -> x.part(5, 1, 1, 1));
        Check.illegal("layers 0", () -> x.part(0, 0, 1, 1));
        Check.illegal("resolutions 0", () -> x.part(0, 1, 0, 1));
        Check.illegal("resolutions 5", () -> x.part(0, 1, 5, 1));
        Check.illegal("components 0", () -> x.part(0, 1, 1, 0));
        Check.illegal("components 4", () -> x.part(0, 1, 1, 4));
        Check.due("no parts", x.told(2), 0);
        Check.due("packets()", x.packets(), 4);
        Check.due("ends above those there are", x.part(4, 8, 4, 3), 1);
        Check.due("packets()", x.packets(), 4);
    }

    private static void whole() {
        PacketRows x = new PacketRows(2, 1);
        Check.due("whole() of none", x.whole(), 0);
        x.part(0, 1, 1, 1);
        x.part(0, 1, 2, 1);
        Check.due("packets()", x.packets(), 2);
        Check.due("whole()", x.whole(), 2);
        Check.due("whole() again", x.whole(), 0);
        Check.due("told(2)", x.told(2), 0);
        Check.due("packets()", x.packets(), 4);
        Check.due("part() behind whole()", x.part(1, 2, 1, 1), 1);
        Check.due("packets()", x.packets(), 2);
        places("part() behind whole()", x, "0000 1000");
    }

    private static void partsGrowWithThePicture() {
        PacketRows x = new PacketRows(1, 0);
        x.part(0, 8, 4, 2);
        places("one component", x, "0000");
        x.component();
        places("two", x, "0000 0010");
        x.component();
        places("the third is in no part", x, "0000 0010");
        x.grid(1, 0, 3, 1, 1);
        places("precincts", x, "0000 0010 0011 0012");
    }

    private static void ordersByHand() {
        String[] due = {
            "0000 0001 0010 0100 0110 0111 1000 1001 1010 1100 1110 1111",
            "0000 0001 0010 1000 1001 1010 0100 0110 0111 1100 1110 1111",
            "0000 1000 0010 1010 0001 1001 0100 1100 0110 1110 0111 1111",
            "0000 1000 0100 1100 0010 1010 0110 1110 0001 1001 0111 1111",
            "0000 1000 0100 1100 0001 1001 0010 1010 0110 1110 0111 1111"
        };
        for (int order = 0; order < 5; order++) {
            PacketRows x = new PacketRows(2, 1);
            x.component();
            x.grid(0, 0, 2, 1, 1);
            x.grid(1, 1, 2, 1, 1);
            if (order == 0) {
                places("without parts", x, due[0]);
            }
            x.part(order, 2, 2, 2);
            places("order " + order, x, due[order]);
        }
    }

    /** Every picture of some kinds, by sorting all places by the letters of the order. */
    private static void ordersByNumbers() {
        String[] letters = {"LRCP", "RLCP", "RPCL", "PCRL", "CPRL"};
        for (int order = 0; order < 5; order++) {
            for (int layers = 1; layers <= 3; layers++) {
                PacketRows x = new PacketRows(3, 3);
                x.component();
                x.component();
                for (int c = 0; c < 3; c++) {
                    for (int r = 0; r < 4; r++) {
                        x.grid(c, r, 1 + (c * 7 + r * 5 + 2) % 4, 1, 1);
                    }
                }
                x.part(order, layers, 4 - layers % 2, 3 - layers % 2);
                List<int[]> all = new ArrayList<>();
                for (int c = 0; c < 3 - layers % 2; c++) {
                    for (int r = 0; r < 4 - layers % 2; r++) {
                        for (int p = 0; p < 1 + (c * 7 + r * 5 + 2) % 4; p++) {
                            for (int l = 0; l < layers; l++) {
                                all.add(new int[] {l, r, c, p});
                            }
                        }
                    }
                }
                String by = letters[order];
                all.sort((a, b) -> key(a, by) - key(b, by));
                StringBuilder want = new StringBuilder();
                for (int[] place : all) {
                    want.append(want.length() == 0 ? "" : " ");
                    want.append(place[0]).append(place[1]).append(place[2]).append(place[3]);
                }
                places("order " + order + " with ends", x, want.toString());
            }
        }
    }

    private static int key(int[] place, String letters) {
        int key = 0;
        for (char letter : letters.toCharArray()) {
            key = key * 10 + place["LRCP".indexOf(letter)];
        }
        return key;
    }

    private static void partsLeaveOutWhatWasBefore() {
        PacketRows x = new PacketRows(2, 1);
        x.component();
        x.part(0, 1, 2, 1);
        places("first", x, "0000 0100");
        x.part(1, 2, 1, 2);
        places("second", x, "0000 0100 0010 1000 1010");
        x.part(1, 2, 1, 2);
        places("the same again", x, "0000 0100 0010 1000 1010");
        x.part(4, 2, 2, 2);
        places("all the rest", x, "0000 0100 0010 1000 1010 1100 0110 1110");
        // What is in no part is not written.
        x.whole();
        x.part(0, 1, 1, 1);
        x.choose(0, 1, 0, 0, 0);
        x.passes(0, 1, 1);
        x.choose(0, 0, 0, 0, 0);
        x.passes(1, 1, 1);
        Check.heads("in no part", x, "0");
        Check.reads("in no part", x, 1, 0, 1);
        Check.got("in no part", x, 1, 0, 0, 0, -1);
    }

    private static void packetRefuses() {
        PacketRows x = new PacketRows(2, 1);
        x.write();
        int[] wrong = {-1, 5, Integer.MAX_VALUE, Integer.MIN_VALUE};
        for (int w : wrong) {
            Check.outOfBounds("packet " + w, () -> x.packet(w, 0));
            Check.outOfBounds("what " + w, () -> x.packet(0, w));
            Check.outOfBounds("both " + w, () -> x.packet(w, w));
        }
        Check.outOfBounds("packet 4 of 4", () -> x.packet(4, 4));
        Check.due("the last", x.packet(3, 4), 3);
    }

    private static void headBegins() {
        PacketRows x = new PacketRows(2, 0);
        Check.due("before write()", x.packet(0, 4), -1);
        x.passes(0, 1, 2047);
        x.write();
        Check.due("written", x.packet(0, 4), 0);
        Check.due("written", x.packet(1, 4), 4);
        x.read();
        x.choose(0, 0, 0, 0, 0);
        x.feed(3, 7);
        x.got(0, 0);
        x.told(0);
        Check.due("nothing was told", x.packet(1, 4), 4);
        x.wipe();
        Check.due("wiped, but written last", x.packet(1, 4), 4);
        x.passes(0, 1, 2047);
        Check.due("passes() tells", x.packet(1, 4), -1);
        x.write();
        x.zero(0);
        Check.due("zero() tells", x.packet(1, 4), -1);
        x.write();
        x.part(0, 8, 4, 3);
        Check.due("part() tells", x.packet(1, 4), -1);
        x.write();
        x.whole();
        Check.due("whole() tells", x.packet(1, 4), -1);
        x.write();
        x.grid(0, 0, 1, 1, 1);
        Check.due("grid() tells", x.packet(1, 4), -1);
        x.write();
        x.component();
        Check.due("component() tells", x.packet(1, 4), -1);
        x.component();
        x.write();
        x.component();
        Check.due("a component that is not made", x.packet(1, 4), 1);
    }

    /** All packets as layer, resolution, component and precinct, a digit each. */
    private static void places(String what, PacketRows x, String want) {
        String[] places = want.split(" ");
        Check.due(what + ": packets()", x.packets(), places.length);
        for (int k = 0; k < places.length && k < x.packets(); k++) {
            for (int axis = 0; axis < 4; axis++) {
                Check.due(what + ": packet(" + k + ", " + axis + ")", x.packet(k, axis),
                        places[k].charAt(axis) - '0');
            }
        }
    }
}
