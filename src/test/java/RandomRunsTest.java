import java.util.Arrays;
import java.util.Random;

/**
 * All promises: long runs of calls, the same for the class and for the model, with a fixed seed
 * each. Every answer and every exception has to be the same.
 */
public final class RandomRunsTest {
    private static final int[] EDGES = {
        0, 1, 2, 3, 4, 5, 6, 7, 8, 9, 30, 31, 36, 37, 164, 165, 65535, 65536, -1, -2,
        Integer.MAX_VALUE, Integer.MIN_VALUE
    };
    private static final int[] BYTES = {255, 127, 0, 128, 254, 224, 239, 247, 63, 192, 1};
    private static final String[] NAMES = {
        "component", "grid", "choose", "passes", "zero", "part", "whole", "packets", "packet",
        "write", "feed", "wipe", "byteAt", "read", "got", "told"
    };
    private static final int[] COUNTS = {0, 5, 5, 3, 1, 4, 0, 0, 2, 0, 2, 0, 1, 0, 2, 1};

    private static final long OUT_OF_BOUNDS = 1L << 40;
    private static final long ILLEGAL = 1L << 41;

    private final Random random;
    private final PacketRows x;
    private final Model model;
    private final int[] faults;

    private RandomRunsTest(long seed, int[] faults) {
        this.faults = faults;
        random = new Random(seed);
        int layers = random.nextInt(10);
        int levels = random.nextInt(5);
        x = new PacketRows(layers, levels);
        model = new Model(layers, levels);
    }

    public static void main(String[] args) {
        int runs = args.length > 0 ? Integer.parseInt(args[0]) : 600;
        int[] faults = new int[4];
        for (int seed = 0; seed < runs; seed++) {
            RandomRunsTest run = new RandomRunsTest(seed, faults);
            run.play("run " + seed, 60 + run.random.nextInt(440));
        }
        for (int which = 0; which < 4; which++) {
            Check.due("fault " + which + " came up", faults[which] > 0 ? 1 : 0, 1);
        }
        Check.end();
    }

    private void play(String name, int calls) {
        int style = random.nextInt(4);
        for (int i = 0; i < calls; i++) {
            int which = random.nextInt(100);
            if (which < 30) {
                tellABlock(name);
            } else if (which < 34) {
                call(name, random.nextBoolean() ? 0 : 1, small(3), small(4), 1 + small(4),
                        1 + small(4), 1 + small(3));
            } else if (which < 38) {
                call(name, 5, small(5), 1 + small(8), 1 + small(4), 1 + small(3));
            } else if (which < 40) {
                call(name, 6);
            } else if (which < 50) {
                writeAndRead(name);
            } else if (which < 54 && style > 0) {
                writeAndSpoil(name);
            } else if (which < 58 && style > 1) {
                feedAndRead(name);
            } else if (which < 66) {
                int k = random.nextInt(16);
                int[] edges = new int[COUNTS[k]];
                for (int e = 0; e < edges.length; e++) {
                    edges[e] = EDGES[random.nextInt(EDGES.length)];
                }
                call(name, k, edges);
            } else if (which < 80) {
                call(name, 8, small(x.packets() + 1), small(5));
            } else {
                askABlock(name);
            }
        }
        writeAndRead(name);
        askAll(name);
    }

    private int small(int below) {
        return random.nextInt(below);
    }

    private void tellABlock(String name) {
        call(name, 2, small(3), small(4), small(3), small(3), small(4));
        if (random.nextInt(3) > 0) {
            call(name, 4, random.nextBoolean() ? small(31) : small(3));
        }
        int layer = small(8);
        for (int n = random.nextInt(3); n >= 0; n--) {
            int passes = random.nextBoolean() ? small(165) : small(7);
            int bytes = random.nextBoolean() ? (1 << small(17)) - 1 : small(65536) >> small(16);
            call(name, 3, layer, passes, bytes);
            layer = (layer + 1) % 8;
        }
    }

    private void askABlock(String name) {
        call(name, 2, small(3), small(4), small(3), small(3), small(4));
        for (int what = 0; what < 4; what++) {
            call(name, 14, small(8), what);
        }
        call(name, 15, small(6));
    }

    private void askAll(String name) {
        for (int c = 0; c < 3; c++) {
            for (int r = 0; r < 4; r++) {
                for (int p = 0; p < 4; p++) {
                    for (int b = 0; b < (r == 0 ? 1 : 3); b++) {
                        for (int i = 0; i < 12; i++) {
                            call(name, 2, c, r, p, b, i);
                            call(name, 14, small(8), small(4));
                        }
                    }
                }
            }
        }
    }

    private void writeAndRead(String name) {
        call(name, 9);
        for (int i = 0; i <= x.told(0); i++) {
            Check.due(name + " byteAt(" + i + ")", x.byteAt(i), model.byteAt(i));
        }
        call(name, 13);
        call(name, 15, 4);
        call(name, 15, 5);
    }

    /** What was written, with a byte changed, or cut, or with bytes put between. */
    private void writeAndSpoil(String name) {
        call(name, 9);
        int size = x.told(0);
        int[] bytes = new int[size];
        for (int i = 0; i < size; i++) {
            bytes[i] = x.byteAt(i);
        }
        call(name, 11);
        int at = size == 0 ? 0 : small(size);
        int how = small(4);
        for (int i = 0; i < size; i++) {
            int value = bytes[i];
            if (i == at && how == 0) {
                value ^= 1 << small(8);
            } else if (i == at && how == 1) {
                value = BYTES[small(BYTES.length)];
            } else if (i == at && how == 2) {
                feed(name, 1, 255);
            } else if (i >= at && how == 3) {
                break;
            }
            feed(name, 1, value);
        }
        call(name, 13);
        faults[x.told(4)]++;
        call(name, 15, 4);
        call(name, 15, 5);
    }

    private void feedAndRead(String name) {
        if (random.nextInt(4) > 0) {
            call(name, 11);
        }
        for (int n = 1 + small(30); n > 0; n--) {
            int count = 1 + small(8);
            long value = 0;
            for (int i = 0; i < count; i++) {
                int one = random.nextInt(3) > 0 ? BYTES[small(BYTES.length)] : small(256);
                value = value << 8 | one;
            }
            feed(name, count, value);
        }
        call(name, 13);
        faults[x.told(4)]++;
        call(name, 15, 4);
        call(name, 15, 5);
    }

    private void feed(String name, int n, long bytes) {
        Check.due(name + " feed", x.feed(n, bytes), model.feed(n, bytes));
    }

    private void call(String name, int which, int... all) {
        int[] a = Arrays.copyOf(all, COUNTS[which]);
        Check.due(name + " " + NAMES[which] + Arrays.toString(a),
                answerOfClass(which, a), answerOfModel(which, a));
    }

    private long answerOfClass(int which, int[] a) {
        try {
            switch (which) {
                case 0: return x.component();
                case 1: return x.grid(a[0], a[1], a[2], a[3], a[4]);
                case 2: return x.choose(a[0], a[1], a[2], a[3], a[4]);
                case 3: x.passes(a[0], a[1], a[2]); return 0;
                case 4: x.zero(a[0]); return 0;
                case 5: return x.part(a[0], a[1], a[2], a[3]);
                case 6: return x.whole();
                case 7: return x.packets();
                case 8: return x.packet(a[0], a[1]);
                case 9: return x.write();
                case 10: return x.feed(a[0], a[1]);
                case 11: return x.wipe();
                case 12: return x.byteAt(a[0]);
                case 13: return x.read();
                case 14: return x.got(a[0], a[1]);
                default: return x.told(a[0]);
            }
        } catch (IndexOutOfBoundsException e) {
            return e.getClass() == IndexOutOfBoundsException.class ? OUT_OF_BOUNDS : -OUT_OF_BOUNDS;
        } catch (IllegalArgumentException e) {
            return e.getClass() == IllegalArgumentException.class ? ILLEGAL : -ILLEGAL;
        }
    }

    private long answerOfModel(int which, int[] a) {
        try {
            switch (which) {
                case 0: return model.component();
                case 1: return model.grid(a[0], a[1], a[2], a[3], a[4]);
                case 2: return model.choose(a[0], a[1], a[2], a[3], a[4]);
                case 3: model.passes(a[0], a[1], a[2]); return 0;
                case 4: model.zero(a[0]); return 0;
                case 5: return model.part(a[0], a[1], a[2], a[3]);
                case 6: return model.whole();
                case 7: return model.packets();
                case 8: return model.packet(a[0], a[1]);
                case 9: return model.write();
                case 10: return model.feed(a[0], a[1]);
                case 11: return model.wipe();
                case 12: return model.byteAt(a[0]);
                case 13: return model.read();
                case 14: return model.got(a[0], a[1]);
                default: return model.told(a[0]);
            }
        } catch (IndexOutOfBoundsException e) {
            return OUT_OF_BOUNDS;
        } catch (IllegalArgumentException e) {
            return ILLEGAL;
        }
    }
}
