import java.util.ArrayList;
import java.util.List;

/** What all tests of the project share: answers against those due, and bits as bytes. */
final class Check {
    private static int wrong;
    private static int looked;

    interface Deed {
        void run();
    }

    private Check() {
    }

    static void due(String call, long got, long want) {
        looked++;
        if (got != want) {
            wrong++;
            System.out.println(call + " answered " + got + ", due is " + want);
        }
    }

    static void outOfBounds(String call, Deed deed) {
        throwsDue(call, deed, IndexOutOfBoundsException.class);
    }

    static void illegal(String call, Deed deed) {
        throwsDue(call, deed, IllegalArgumentException.class);
    }

    private static void throwsDue(String call, Deed deed, Class<?> want) {
        looked++;
        try {
            deed.run();
        } catch (RuntimeException e) {
            if (e.getClass() == want) {
                return;
            }
            wrong++;
            System.out.println(call + " threw " + e + ", due is " + want.getName());
            return;
        }
        wrong++;
        System.out.println(call + " threw nothing, due is " + want.getName());
    }

    /** The bytes of one head, from its bits as 0 and 1 (blanks are for the eye). */
    static List<Integer> head(String bits) {
        List<Integer> bytes = new ArrayList<>();
        String rest = bits.replace(" ", "");
        int last = 0;
        while (!rest.isEmpty() || last == 255) {
            int room = last == 255 ? 7 : 8;
            StringBuilder one = new StringBuilder(rest.substring(0, Math.min(room, rest.length())));
            rest = rest.substring(one.length());
            while (one.length() < room) {
                one.append('0');
            }
            last = Integer.parseInt(one.toString(), 2);
            bytes.add(last);
        }
        return bytes;
    }

    /** Writes, and looks at every byte and every place where a head begins. */
    static void heads(String what, PacketRows x, String... heads) {
        List<Integer> want = new ArrayList<>();
        List<Integer> begins = new ArrayList<>();
        for (String head : heads) {
            begins.add(want.size());
            want.addAll(head(head));
        }
        due(what + ": packets()", x.packets(), heads.length);
        due(what + ": write()", x.write(), want.size());
        for (int i = 0; i < want.size(); i++) {
            due(what + ": byteAt(" + i + ")", x.byteAt(i), want.get(i));
        }
        due(what + ": byteAt(end)", x.byteAt(want.size()), PacketRows.NONE);
        for (int k = 0; k < heads.length; k++) {
            due(what + ": packet(" + k + ", 4)", x.packet(k, 4), begins.get(k));
        }
    }

    /** Feeds these bytes in place of those there were. */
    static void bytes(PacketRows x, int... values) {
        x.wipe();
        for (int value : values) {
            x.feed(1, value);
        }
    }

    static void bytes(PacketRows x, List<Integer> values) {
        x.wipe();
        for (int value : values) {
            x.feed(1, value);
        }
    }

    /** Reads, with what is due of read(), told(4) and told(5). */
    static void reads(String what, PacketRows x, int answer, int fault, int reach) {
        due(what + ": read()", x.read(), answer);
        due(what + ": told(4)", x.told(4), fault);
        due(what + ": told(5)", x.told(5), reach);
    }

    static void got(String what, PacketRows x, int layer, int passes, int bytes, int zeros,
            int first) {
        due(what + ": got(" + layer + ", 0)", x.got(layer, 0), passes);
        due(what + ": got(" + layer + ", 1)", x.got(layer, 1), bytes);
        due(what + ": got(" + layer + ", 2)", x.got(layer, 2), zeros);
        due(what + ": got(" + layer + ", 3)", x.got(layer, 3), first);
    }

    static void end() {
        System.out.println(looked + " looked at, " + wrong + " wrong");
        if (wrong != 0 || looked == 0) {
            System.exit(1);
        }
    }
}
