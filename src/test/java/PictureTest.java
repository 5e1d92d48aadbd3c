/** Promises 1 to 4: a new object, component, grid, choose. */
public final class PictureTest {
    public static void main(String[] args) {
        newObject();
        newObjectIsBounded();
        component();
        componentIsNew();
        componentGoesOverTheLimit();
        grid();
        gridLimit();
        gridRefuses();
        gridForgetsItsOwnBlocksAlone();
        gridAndTheChosenBlock();
        choose();
        chooseRefuses();
        Check.end();
    }

    private static void newObject() {
        PacketRows x = new PacketRows(3, 2);
        Check.due("NONE", PacketRows.NONE, -1);
        Check.due("new: told(0)", x.told(0), 0);
        Check.due("new: told(1)", x.told(1), 7);
        Check.due("new: told(2)", x.told(2), 0);
        Check.due("new: told(3)", x.told(3), 1);
        Check.due("new: told(4)", x.told(4), 0);
        Check.due("new: told(5)", x.told(5), 0);
        Check.due("new: packets()", x.packets(), 9);
        Check.due("new: packet(0, 4)", x.packet(0, 4), -1);
        Check.got("new", x, 2, 0, 0, 0, -1);
        // Without choose(), what is told is of the very first block.
        x.passes(0, 1, 5);
        x.zero(3);
        x.write();
        x.read();
        Check.got("chosen at first", x, 0, 1, 5, 3, 0);
        x.choose(0, 1, 0, 0, 0);
        Check.got("not chosen at first", x, 0, 0, 0, 0, -1);
        x.choose(0, 0, 0, 0, 0);
        Check.got("chosen by name", x, 0, 1, 5, 3, 0);
    }

    private static void newObjectIsBounded() {
        int[][] cases = {
            {1, 0, 1, 0}, {0, -1, 1, 0}, {Integer.MIN_VALUE, Integer.MIN_VALUE, 1, 0},
            {8, 3, 8, 3}, {9, 4, 8, 3}, {Integer.MAX_VALUE, Integer.MAX_VALUE, 8, 3},
            {5, 1, 5, 1}, {-3, 2, 1, 2}, {7, -9, 7, 0}
        };
        for (int[] c : cases) {
            String name = "new PacketRows(" + c[0] + ", " + c[1] + ")";
            PacketRows x = new PacketRows(c[0], c[1]);
            Check.due(name + " packets", x.packets(), c[2] * (c[3] + 1));
            Check.due(name + " blocks", x.told(1), 1 + 3 * c[3]);
            x.passes(c[2] - 1, 1, 1);
            x.grid(0, c[3], 1, 1, 1);
            Check.outOfBounds(name + " passes", () -> x.passes(c[2], 1, 1));
            Check.outOfBounds(name + " grid", () -> x.grid(0, c[3] + 1, 1, 1, 1));
        }
    }

    private static void component() {
        PacketRows x = new PacketRows(2, 1);
        Check.outOfBounds("component 1 is not yet", () -> x.choose(1, 0, 0, 0, 0));
        Check.due("component()", x.component(), 1);
        Check.due("told(3)", x.told(3), 2);
        Check.due("told(1)", x.told(1), 8);
        Check.due("choose of it", x.choose(1, 0, 0, 0, 0), 4);
        Check.due("component()", x.component(), 2);
        Check.due("packets()", x.packets(), 12);
        Check.due("component() with 3", x.component(), -1);
        Check.due("told(3)", x.told(3), 3);
        Check.due("told(1)", x.told(1), 12);
        Check.due("packets()", x.packets(), 12);
    }

    /** Nothing of blocks that there were once comes back with a component. */
    private static void componentIsNew() {
        PacketRows x = new PacketRows(2, 0);
        x.grid(0, 0, 4, 4, 3);
        for (int block = 0; block < 12; block++) {
            x.choose(0, 0, 0, 0, block);
            x.zero(3);
            x.passes(0, 2, 3);
            x.passes(1, 4, 5);
        }
        x.write();
        x.read();
        x.grid(0, 0, 1, 1, 1);
        x.component();
        Check.due("choose", x.choose(1, 0, 0, 0, 0), 1);
        Check.got("nothing is read of it", x, 1, 0, 0, 0, -1);
        Check.heads("nothing is told of it", x, "0", "0", "0", "0");
        x.passes(0, 1, 0);
        Check.heads("nor zero planes", x, "0", "1 1 1 0 0 000", "0", "0");
    }

    private static void componentGoesOverTheLimit() {
        PacketRows x = fullPicture();
        Check.due("400: component()", x.component(), 1);
        Check.due("410: told(1)", x.told(1), 410);
        Check.due("410: grid of the same", x.grid(1, 0, 1, 1, 1), -1);
        Check.due("410: component()", x.component(), 2);
        Check.due("420: told(1)", x.told(1), 420);
        Check.due("420: choose", x.choose(2, 3, 0, 2, 0), 419);
        x.passes(7, 164, 65535);
        Check.due("420: read()", x.write() > 0 ? x.read() : 0, x.packets());
        Check.got("420", x, 7, 164, 65535, 0, 7);
        Check.due("420: grid down to 279", x.grid(0, 1, 1, 1, 1), 1);
        Check.due("279: told(1)", x.told(1), 279);
        Check.got("279, still chosen", x, 7, 164, 65535, 0, 7);
        Check.due("279: choose", x.choose(2, 3, 0, 2, 0), 278);
    }

    /** One component of 4 + 144 + 144 + 108 = 400 blocks. */
    private static PacketRows fullPicture() {
        PacketRows x = new PacketRows(8, 3);
        Check.due("grid", x.grid(0, 0, 2, 2, 1), 1);
        Check.due("grid", x.grid(0, 1, 4, 4, 3), 1);
        Check.due("grid", x.grid(0, 2, 4, 4, 3), 1);
        Check.due("grid", x.grid(0, 3, 3, 4, 3), 1);
        Check.due("told(1)", x.told(1), 400);
        return x;
    }

    private static void grid() {
        PacketRows x = new PacketRows(1, 1);
        Check.due("grid", x.grid(0, 0, 4, 3, 2), 1);
        Check.due("one band", x.told(1), 24 + 3);
        Check.due("grid", x.grid(0, 1, 2, 4, 3), 1);
        Check.due("three bands", x.told(1), 24 + 72);
        Check.due("packets()", x.packets(), 6);
        Check.due("grid", x.grid(0, 0, 1, 1, 1), 1);
        Check.due("smaller again", x.told(1), 1 + 72);
        Check.due("packets()", x.packets(), 3);
    }

    private static void gridLimit() {
        PacketRows x = fullPicture();
        Check.due("grid to 400", x.grid(0, 0, 1, 4, 1), 1);
        Check.due("still 400", x.told(1), 400);
        x.choose(0, 0, 0, 0, 3);
        x.passes(0, 3, 9);
        x.write();
        x.read();
        Check.due("grid to 402", x.grid(0, 0, 1, 3, 2), -1);
        Check.due("nothing changes: blocks", x.told(1), 400);
        Check.due("nothing changes: head", x.packet(0, 4), 0);
        Check.got("nothing changes: chosen and read", x, 0, 3, 9, 0, 0);
        Check.due("grid to 400", x.grid(0, 3, 4, 3, 3), 1);
        Check.due("still 400", x.told(1), 400);
        PacketRows y = new PacketRows(1, 3);
        y.grid(0, 0, 4, 4, 2);
        y.grid(0, 1, 4, 4, 3);
        y.grid(0, 2, 4, 4, 3);
        y.grid(0, 3, 3, 4, 2);
        Check.due("392", y.told(1), 392);
        Check.due("grid to 401", y.grid(0, 3, 3, 3, 3), -1);
        Check.due("still 392", y.told(1), 392);
    }

    private static void gridRefuses() {
        PacketRows x = new PacketRows(1, 1);
        int[] wrong = {-1, 2, Integer.MAX_VALUE, Integer.MIN_VALUE};
        for (int w : wrong) {
            Check.outOfBounds("grid component " + w, () -> x.grid(w, 0, 1, 1, 1));
            Check.outOfBounds("grid resolution " + w, () -> x.grid(0, w, 1, 1, 1));
            Check.outOfBounds("grid, all wrong " + w, () -> x.grid(w, w, 0, 0, 0));
        }
        int[] illegal = {0, -1, Integer.MAX_VALUE, Integer.MIN_VALUE};
        for (int w : illegal) {
            Check.illegal("grid precincts " + w, () -> x.grid(0, 0, w, 1, 1));
            Check.illegal("grid width " + w, () -> x.grid(0, 0, 1, w, 1));
            Check.illegal("grid height " + w, () -> x.grid(0, 0, 1, 1, w));
        }
        Check.illegal("grid precincts 5", () -> x.grid(0, 0, 5, 1, 1));
        Check.illegal("grid width 5", () -> x.grid(0, 0, 1, 5, 1));
        Check.illegal("grid height 4", () -> x.grid(0, 0, 1, 1, 4));
        Check.due("nothing changed", x.told(1), 4);
        Check.due("nothing changed", x.packets(), 2);
    }

    private static void gridForgetsItsOwnBlocksAlone() {
        PacketRows x = new PacketRows(2, 2);
        for (int r = 0; r < 3; r++) {
            x.choose(0, r, 0, 0, 0);
            x.passes(1, 5 + r, 50 + r);
            x.zero(10 + r);
        }
        x.write();
        x.read();
        Check.due("grid", x.grid(0, 1, 2, 3, 2), 1);
        for (int r = 0; r < 3; r++) {
            x.choose(0, r, 0, 0, 0);
            if (r == 1) {
                Check.got("read is gone", x, 1, 0, 0, 0, -1);
            } else {
                Check.got("read stays", x, 1, 5 + r, 50 + r, 10 + r, 1);
            }
        }
        x.write();
        x.read();
        for (int r = 0; r < 3; r++) {
            x.choose(0, r, 0, 0, 0);
            if (r == 1) {
                Check.got("told is gone", x, 1, 0, 0, 0, -1);
            } else {
                Check.got("told stays", x, 1, 5 + r, 50 + r, 10 + r, 1);
            }
        }
        // The same counts once more: what was told is gone all the same.
        x.choose(0, 1, 1, 2, 5);
        x.zero(4);
        x.passes(0, 1, 1);
        Check.due("grid of the same", x.grid(0, 1, 2, 3, 2), 1);
        x.write();
        x.read();
        x.choose(0, 1, 1, 2, 5);
        Check.got("gone", x, 0, 0, 0, 0, -1);
    }

    private static void gridAndTheChosenBlock() {
        PacketRows x = new PacketRows(1, 1);
        x.grid(0, 0, 2, 2, 2);
        x.grid(0, 1, 2, 2, 2);
        x.choose(0, 1, 1, 2, 3);
        x.passes(0, 7, 77);
        x.grid(0, 0, 1, 1, 2);
        x.write();
        x.read();
        Check.got("another grid: the same is chosen", x, 0, 7, 77, 0, 0);
        x.grid(0, 1, 2, 2, 3);
        x.passes(0, 8, 88);
        x.write();
        x.read();
        Check.got("its own grid: block 0 is chosen", x, 0, 8, 88, 0, 0);
        Check.due("its number", x.choose(0, 1, 0, 0, 0), 2);
        Check.got("block 0", x, 0, 8, 88, 0, 0);
    }

    private static void choose() {
        PacketRows x = new PacketRows(1, 2);
        x.component();
        x.grid(0, 0, 2, 2, 1);
        x.grid(0, 1, 3, 1, 2);
        x.grid(1, 2, 2, 4, 3);
        int number = 0;
        int[][][] sizes = {{{2, 1, 2}, {3, 3, 2}, {1, 3, 1}}, {{1, 1, 1}, {1, 3, 1}, {2, 3, 12}}};
        for (int c = 0; c < 2; c++) {
            for (int r = 0; r < 3; r++) {
                for (int p = 0; p < sizes[c][r][0]; p++) {
                    for (int b = 0; b < sizes[c][r][1]; b++) {
                        for (int i = 0; i < sizes[c][r][2]; i++) {
                            Check.due("choose", x.choose(c, r, p, b, i), number);
                            number++;
                        }
                    }
                }
            }
        }
        Check.due("all of them", x.told(1), number);
    }

    private static void chooseRefuses() {
        PacketRows x = new PacketRows(1, 1);
        x.grid(0, 1, 2, 2, 2);
        x.choose(0, 1, 1, 2, 3);
        x.passes(0, 2, 3);
        x.write();
        x.read();
        int[] wrong = {-1, 4, Integer.MAX_VALUE, Integer.MIN_VALUE};
        for (int w : wrong) {
            Check.outOfBounds("choose component", () -> x.choose(w, 1, 1, 2, 3));
            Check.outOfBounds("choose resolution", () -> x.choose(0, w, 1, 2, 3));
            Check.outOfBounds("choose precinct", () -> x.choose(0, 1, w, 2, 3));
            Check.outOfBounds("choose band", () -> x.choose(0, 1, 1, w, 3));
            Check.outOfBounds("choose block", () -> x.choose(0, 1, 1, 2, w));
        }
        Check.outOfBounds("choose component 1", () -> x.choose(1, 0, 0, 0, 0));
        Check.outOfBounds("choose resolution 2", () -> x.choose(0, 2, 0, 0, 0));
        Check.outOfBounds("choose precinct 2", () -> x.choose(0, 1, 2, 0, 0));
        Check.outOfBounds("choose band 3", () -> x.choose(0, 1, 0, 3, 0));
        Check.outOfBounds("choose band 1 of resolution 0", () -> x.choose(0, 0, 0, 1, 0));
        Check.outOfBounds("choose block 1 of one", () -> x.choose(0, 0, 0, 0, 1));
        Check.got("the chosen one stays", x, 0, 2, 3, 0, 0);
        Check.due("choosing tells nothing", x.choose(0, 0, 0, 0, 0), 0);
        Check.due("choosing tells nothing", x.packet(0, 4), 0);
    }
}
