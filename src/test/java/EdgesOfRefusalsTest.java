import java.util.ArrayList;
import java.util.List;

/**
 * "A call that throws changes nothing", the calls that answer NONE, and the 512 calls that an
 * object is used for. Two objects are told the same; one has a refused call besides, and must
 * answer all that can be asked as the other does.
 */
public final class EdgesOfRefusalsTest {
    private static final int MIN = Integer.MIN_VALUE;
    private static final int MAX = Integer.MAX_VALUE;
    private static final int MOST_CALLS = 512;

    private interface Call {
        long on(PacketRows x);
    }

    public static void main(String[] args) {
        callsThatThrow();
        callsThatAnswerNone();
        callsThatAsk();
        the512thCall();
        Check.end();
    }

    /** Every call that throws, with each argument a step beyond its ends or far away. */
    private static void callsThatThrow() {
        int[] far = {-1, MIN, MAX};
        for (int w : far) {
            bounds("grid", x -> x.grid(w, 0, 1, 1, 1));
            bounds("grid", x -> x.grid(0, w, 1, 1, 1));
            illegal("grid", x -> x.grid(0, 0, w, 1, 1));
            illegal("grid", x -> x.grid(0, 0, 1, w, 1));
            illegal("grid", x -> x.grid(0, 0, 1, 1, w));
            bounds("choose", x -> x.choose(w, 0, 0, 0, 0));
            bounds("choose", x -> x.choose(0, w, 0, 0, 0));
            bounds("choose", x -> x.choose(0, 0, w, 0, 0));
            bounds("choose", x -> x.choose(0, 0, 0, w, 0));
            bounds("choose", x -> x.choose(0, 0, 0, 0, w));
            bounds("passes", x -> passes(x, w, 1, 1));
            illegal("passes", x -> passes(x, 0, w, 1));
            illegal("passes", x -> passes(x, 0, 1, w));
            illegal("passes", x -> passes(x, 0, 0, w));
            illegal("zero", x -> zero(x, w));
            illegal("part", x -> x.part(w, 1, 1, 1));
            illegal("part", x -> x.part(0, w, 1, 1));
            illegal("part", x -> x.part(0, 1, w, 1));
            illegal("part", x -> x.part(0, 1, 1, w));
            bounds("packet", x -> x.packet(w, 0));
            bounds("packet", x -> x.packet(0, w));
            illegal("feed", x -> x.feed(w, 0));
            bounds("got", x -> x.got(w, 0));
            bounds("got", x -> x.got(0, w));
            bounds("told", x -> x.told(w));
        }
        bounds("grid", x -> x.grid(2, 0, 1, 1, 1));
        bounds("grid", x -> x.grid(0, 2, 1, 1, 1));
        illegal("grid", x -> x.grid(1, 1, 0, 1, 1));
        illegal("grid", x -> x.grid(1, 1, 5, 1, 1));
        illegal("grid", x -> x.grid(1, 1, 1, 0, 1));
        illegal("grid", x -> x.grid(1, 1, 1, 5, 1));
        illegal("grid", x -> x.grid(1, 1, 1, 1, 0));
        illegal("grid", x -> x.grid(1, 1, 1, 1, 4));
        bounds("choose", x -> x.choose(2, 0, 0, 0, 0));
        bounds("choose", x -> x.choose(1, 2, 0, 0, 0));
        bounds("choose", x -> x.choose(1, 1, 2, 0, 0));
        bounds("choose", x -> x.choose(1, 1, 0, 3, 0));
        bounds("choose", x -> x.choose(1, 1, 0, 0, 2));
        bounds("passes", x -> passes(x, 2, 1, 1));
        illegal("passes", x -> passes(x, 0, 165, 1));
        illegal("passes", x -> passes(x, 1, 1, 65536));
        illegal("zero", x -> zero(x, 31));
        illegal("part", x -> x.part(5, 1, 1, 1));
        illegal("part", x -> x.part(0, 0, 1, 1));
        illegal("part", x -> x.part(0, 9, 1, 1));
        illegal("part", x -> x.part(0, 1, 0, 1));
        illegal("part", x -> x.part(0, 1, 5, 1));
        illegal("part", x -> x.part(0, 1, 1, 0));
        illegal("part", x -> x.part(0, 1, 1, 4));
        bounds("packet", x -> x.packet(x.packets(), 0));
        bounds("packet", x -> x.packet(0, 5));
        illegal("feed", x -> x.feed(0, 0));
        illegal("feed", x -> x.feed(9, 0));
        bounds("got", x -> x.got(2, 0));
        bounds("got", x -> x.got(0, 4));
        bounds("told", x -> x.told(6));
    }

    /** NONE is no exception, but these calls are refused too, and change nothing. */
    private static void callsThatAnswerNone() {
        Pair three = new Pair();
        three.both(PacketRows::component);
        three.refused("component() with 3", PacketRows::component);

        Pair many = new Pair();
        many.both(x -> x.grid(0, 0, 4, 4, 3));
        many.both(x -> x.grid(0, 1, 4, 4, 3));
        many.both(x -> x.grid(1, 0, 4, 4, 3));
        many.both(x -> x.grid(1, 1, 4, 4, 3));
        many.both(x -> x.choose(1, 1, 3, 2, 11));
        many.both(x -> passes(x, 1, 2, 3));
        many.both(PacketRows::write);
        many.both(PacketRows::read);
        many.both(PacketRows::component);
        many.refused("grid() to 421", x -> x.grid(2, 1, 3, 2, 2));

        Pair six = new Pair();
        for (int n = 0; n < 6; n++) {
            six.both(x -> x.part(1, 1, 2, 2));
        }
        six.refused("part() with 6", x -> x.part(0, 8, 4, 3));

        new Pair().refused("byteAt(-1)", x -> x.byteAt(-1));
        new Pair().refused("byteAt(6000)", x -> x.byteAt(6000));
    }

    /** What asks changes nothing either. */
    private static void callsThatAsk() {
        Call[] calls = {
            PacketRows::packets, x -> x.packet(0, 4), x -> x.byteAt(0), x -> x.got(1, 3),
            x -> x.told(5)
        };
        for (Call call : calls) {
            Pair pair = new Pair();
            pair.extra(call);
            pair.same("a call that asks");
        }
    }

    /** "An object is used for at most 512 calls": all of them answer, the last one too. */
    private static void the512thCall() {
        PacketRows x = new PacketRows(8, 0);
        int asked = 8 * 4;
        int tells = MOST_CALLS - 2 - asked;
        for (int call = 0; call < tells; call++) {
            x.passes(call % 8, 1 + call % 164, call);
        }
        Check.due("write()", x.write() > 8 ? 1 : 0, 1);
        Check.due("read()", x.read(), 8);
        for (int layer = 0; layer < 8; layer++) {
            int last = tells - 1 - Math.floorMod(tells - 1 - layer, 8);
            Check.got("told last of layer " + layer, x, layer, 1 + last % 164, last, 0, 0);
        }
        // What later calls answer is free, but they end and throw nothing.
        x.passes(0, 1, 1);
        x.write();
        x.read();
        x.got(0, 0);
    }

    private static long passes(PacketRows x, int layer, int passes, int bytes) {
        x.passes(layer, passes, bytes);
        return 0;
    }

    private static long zero(PacketRows x, int planes) {
        x.zero(planes);
        return 0;
    }

    private static void bounds(String name, Call call) {
        Pair pair = new Pair();
        Check.outOfBounds(name, () -> pair.extra(call));
        pair.same(name + " that throws");
    }

    private static void illegal(String name, Call call) {
        Pair pair = new Pair();
        Check.illegal(name, () -> pair.extra(call));
        pair.same(name + " that throws");
    }

    /** Two objects with the same calls; all of them are counted, to stay within the 512. */
    private static final class Pair {
        private final PacketRows x = new PacketRows(2, 1);
        private final PacketRows twin = new PacketRows(2, 1);
        private int calls;

        Pair() {
            both(PacketRows::component);
            both(a -> a.grid(0, 0, 2, 2, 1));
            both(a -> a.grid(1, 1, 2, 2, 1));
            both(a -> a.part(4, 1, 2, 2));
            both(a -> a.part(2, 2, 2, 1));
            int[][] blocks = {
                {0, 0, 0, 0, 1}, {0, 0, 1, 0, 0}, {0, 1, 0, 2, 0}, {1, 1, 0, 0, 1}, {1, 1, 1, 1, 0}
            };
            for (int i = 0; i < blocks.length; i++) {
                int n = i;
                int[] b = blocks[i];
                both(a -> a.choose(b[0], b[1], b[2], b[3], b[4]));
                both(a -> passes(a, n % 2, 3 + n, 20 + n));
                both(a -> zero(a, 3 * n));
            }
            both(PacketRows::write);
            both(PacketRows::read);
            both(a -> a.feed(2, 0x1234));
        }

        void both(Call call) {
            calls++;
            Check.due("call " + calls, call.on(x), call.on(twin));
        }

        void extra(Call call) {
            calls++;
            call.on(x);
        }

        void refused(String name, Call call) {
            calls++;
            Check.due(name, call.on(x), -1);
            same(name);
        }

        /** First what can be asked as it stands, then what further calls show. */
        void same(String name) {
            for (int what = 0; what <= 5; what++) {
                int w = what;
                both(a -> a.told(w));
            }
            sameBytes();
            samePackets();
            sameGot();
            // The chosen block is told of, and all that was told is written.
            both(a -> passes(a, 0, 9, 900));
            both(PacketRows::write);
            sameBytes();
            both(PacketRows::read);
            both(PacketRows::whole);
            both(PacketRows::packets);
            List<int[]> ends = new ArrayList<>();
            ends.add(new int[] {0, 0, 0, 0, 0});
            ends.add(new int[] {0, 0, 1, 0, 1});
            ends.add(new int[] {0, 1, 0, 2, 0});
            ends.add(new int[] {1, 1, 0, 0, 1});
            ends.add(new int[] {1, 1, 1, 1, 0});
            for (int[] b : ends) {
                both(a -> a.choose(b[0], b[1], b[2], b[3], b[4]));
                sameGot();
            }
            Check.due(name + ": calls within 512", calls <= MOST_CALLS ? 1 : 0, 1);
        }

        private void sameBytes() {
            int size = Math.min(twin.told(0), 60);
            for (int i = 0; i <= size; i++) {
                int at = i;
                both(a -> a.byteAt(at));
            }
        }

        private void samePackets() {
            both(PacketRows::packets);
            int packets = Math.min(twin.packets(), 20);
            for (int k = 0; k < packets; k++) {
                for (int what = 0; what <= 4; what++) {
                    int packet = k;
                    int w = what;
                    both(a -> a.packet(packet, w));
                }
            }
        }

        private void sameGot() {
            for (int layer = 0; layer < 2; layer++) {
                for (int what = 0; what <= 3; what++) {
                    int l = layer;
                    int w = what;
                    both(a -> a.got(l, w));
                }
            }
        }
    }
}
