/**
 * The edges that sentences of the document name, a method for each sentence: the terms of the
 * picture, and promises 1 to 4.
 */
public final class EdgesOfPictureTest {
    private static final int MIN = Integer.MIN_VALUE;
    private static final int MAX = Integer.MAX_VALUE;

    public static void main(String[] args) {
        layersThereAre();
        resolutionsThereAre();
        componentsThereAre();
        precinctsThereAre();
        bandsThereAre();
        widthsAndHeights();
        blocksAreNumberedRowByRow();
        bandsOfPrecinctsAreAlike();
        allAreOneAtFirst();
        allAreZeroAtFirst();

        layersBelowOneAndAboveEight();
        levelsBelowZeroAndAboveThree();
        oneComponent();
        firstBlockIsChosen();

        aComponentMore();
        noneWhenThereAreThree();

        gridAnswersOne();
        noneAbove400();
        noneAbove400InThreeComponents();
        componentsAreNotCountedAgainst400();
        mostBlocksThereCanBe();
        toldIsGone();
        readIsGone();
        toldAndReadOfOthersStay();
        chosenOneOfThem();
        chosenOneOfOthers();
        gridWithoutComponentOrResolution();
        gridOfNoSuchCounts();
        gridWithBothWrong();

        chooseAnswersTheNumber();
        chooseOfNone();
        Check.end();
    }

    /** "LAYERS 1 to 8": with n layers there are 0 to n - 1. */
    private static void layersThereAre() {
        for (int n = 1; n <= 8; n++) {
            PacketRows x = new PacketRows(n, 0);
            int layers = n;
            Check.due(n + " layers: packets()", x.packets(), n);
            for (int layer = 0; layer < n; layer++) {
                x.passes(layer, 1, layer);
                Check.due("got(" + layer + ", 0)", x.got(layer, 0), 0);
            }
            for (int layer : new int[] {-1, layers, layers + 1, MIN, MAX}) {
                Check.outOfBounds(n + " layers: passes(" + layer + ")", () -> x.passes(layer, 1, 1));
                Check.outOfBounds(n + " layers: got(" + layer + ")", () -> x.got(layer, 0));
            }
        }
    }

    /** "RESOLUTIONS 0 to 3 (one more than levels)". */
    private static void resolutionsThereAre() {
        for (int levels = 0; levels <= 3; levels++) {
            PacketRows x = new PacketRows(1, levels);
            Check.due("packets()", x.packets(), levels + 1);
            Check.due("the last", x.packet(levels, 1), levels);
            for (int r = 0; r <= levels; r++) {
                Check.due("grid of resolution " + r, x.grid(0, r, 1, 1, 1), 1);
                Check.due("choose of it", x.choose(0, r, 0, 0, 0), r == 0 ? 0 : 3 * r - 2);
            }
            for (int r : new int[] {-1, levels + 1, MIN, MAX}) {
                Check.outOfBounds("grid of resolution " + r, () -> x.grid(0, r, 1, 1, 1));
                Check.outOfBounds("choose of it", () -> x.choose(0, r, 0, 0, 0));
            }
        }
    }

    /** "COMPONENTS 0 to 2". */
    private static void componentsThereAre() {
        PacketRows x = new PacketRows(1, 0);
        for (int n = 1; n <= 3; n++) {
            Check.due("told(3)", x.told(3), n);
            for (int c = 0; c < n; c++) {
                Check.due("grid of component " + c, x.grid(c, 0, 1, 1, 1), 1);
                Check.due("choose of it", x.choose(c, 0, 0, 0, 0), c);
            }
            for (int c : new int[] {-1, n, n + 1, MIN, MAX}) {
                Check.outOfBounds("grid of component " + c, () -> x.grid(c, 0, 1, 1, 1));
                Check.outOfBounds("choose of it", () -> x.choose(c, 0, 0, 0, 0));
            }
            x.component();
        }
    }

    /** "PRECINCTS, 1 to 4". */
    private static void precinctsThereAre() {
        for (int r = 0; r < 2; r++) {
            int resolution = r;
            for (int n = 1; n <= 4; n++) {
                PacketRows x = new PacketRows(1, 1);
                int count = n;
                Check.due("grid of " + n, x.grid(0, r, n, 1, 1), 1);
                Check.due("packets()", x.packets(), n + 1);
                int bands = r == 0 ? 1 : 3;
                Check.due("the last one", x.choose(0, r, n - 1, 0, 0), r + (n - 1) * bands);
                for (int p : new int[] {-1, count, MIN, MAX}) {
                    Check.outOfBounds("precinct " + p + " of " + n,
                            () -> x.choose(0, resolution, p, 0, 0));
                }
                for (int wrong : new int[] {0, 5, -1, MIN, MAX}) {
                    Check.illegal(wrong + " precincts", () -> x.grid(0, resolution, wrong, 1, 1));
                }
                Check.due("still " + n, x.packets(), n + 1);
            }
        }
    }

    /** "BANDS, 1 for resolution 0, else 3". */
    private static void bandsThereAre() {
        PacketRows x = new PacketRows(1, 3);
        for (int r = 0; r < 4; r++) {
            int resolution = r;
            int bands = r == 0 ? 1 : 3;
            for (int b = 0; b < bands; b++) {
                Check.due("band " + b, x.choose(0, r, 0, b, 0), (r == 0 ? 0 : 3 * r - 2) + b);
            }
            for (int b : new int[] {-1, bands, MIN, MAX}) {
                Check.outOfBounds("band " + b + " of resolution " + r,
                        () -> x.choose(0, resolution, 0, b, 0));
            }
        }
    }

    /** "a width of 1 to 4 and a height of 1 to 3". */
    private static void widthsAndHeights() {
        for (int width = 1; width <= 4; width++) {
            for (int height = 1; height <= 3; height++) {
                PacketRows x = new PacketRows(1, 0);
                int size = width * height;
                Check.due("grid", x.grid(0, 0, 1, width, height), 1);
                Check.due("told(1)", x.told(1), size);
                Check.due("the last block", x.choose(0, 0, 0, 0, size - 1), size - 1);
                for (int i : new int[] {-1, size, MIN, MAX}) {
                    Check.outOfBounds("block " + i + " of " + size, () -> x.choose(0, 0, 0, 0, i));
                }
            }
        }
        PacketRows x = new PacketRows(1, 0);
        for (int wrong : new int[] {0, 5, -1, MIN, MAX}) {
            Check.illegal("width " + wrong, () -> x.grid(0, 0, 1, wrong, 1));
        }
        for (int wrong : new int[] {0, 4, -1, MIN, MAX}) {
            Check.illegal("height " + wrong, () -> x.grid(0, 0, 1, 1, wrong));
        }
    }

    /** "numbered row by row": block 2 is right of 1 when there are three in a row, else below 0. */
    private static void blocksAreNumberedRowByRow() {
        PacketRows wide = new PacketRows(1, 0);
        wide.grid(0, 0, 1, 3, 2);
        wide.choose(0, 0, 0, 0, 2);
        wide.passes(0, 1, 0);
        // Top, the node over 0, 1, 3, 4, the node over 2 and 5, block 2 with its zeros, block 5.
        Check.heads("three in a row", wide, "1  1 0  1 1  111 0 0 000  0");
        PacketRows high = new PacketRows(1, 0);
        high.grid(0, 0, 1, 2, 3);
        high.choose(0, 0, 0, 0, 2);
        high.passes(0, 1, 0);
        // Top, the node over 0 to 3, blocks 0 and 1, block 2 with its zeros, 3, the node over 4, 5.
        Check.heads("two in a row", high, "1  1 1 0  0  1  111 0 0 000  0  0");
    }

    /** "(all bands of these precincts alike)". */
    private static void bandsOfPrecinctsAreAlike() {
        PacketRows x = new PacketRows(1, 1);
        x.grid(0, 1, 3, 2, 3);
        for (int p = 0; p < 3; p++) {
            for (int b = 0; b < 3; b++) {
                int precinct = p;
                int band = b;
                Check.due("block 5", x.choose(0, 1, p, b, 5), 1 + (p * 3 + b) * 6 + 5);
                Check.outOfBounds("block 6", () -> x.choose(0, 1, precinct, band, 6));
            }
        }
        Check.outOfBounds("block 1 of the other resolution", () -> x.choose(0, 0, 0, 0, 1));
    }

    /** "All are 1 at first", of a new object and of a component more. */
    private static void allAreOneAtFirst() {
        PacketRows x = new PacketRows(2, 3);
        for (int c = 0; c < 3; c++) {
            int component = c;
            Check.due("told(1)", x.told(1), 10 * (c + 1));
            Check.due("packets()", x.packets(), 8 * (c + 1));
            for (int r = 0; r < 4; r++) {
                int resolution = r;
                Check.outOfBounds("precinct 1", () -> x.choose(component, resolution, 1, 0, 0));
                Check.outOfBounds("block 1", () -> x.choose(component, resolution, 0, 0, 1));
            }
            x.component();
        }
    }

    /** "(all 0 at first)": zero planes, passes and bytes. */
    private static void allAreZeroAtFirst() {
        Check.heads("no passes", new PacketRows(2, 1), "0", "0", "0", "0");
        PacketRows x = new PacketRows(2, 0);
        x.passes(1, 1, 1);
        Check.heads("none in layer 0, no zero planes", x, "0", "1 01 1 0 0 001");
        // Of a component more too, where there were other blocks once.
        PacketRows y = new PacketRows(1, 0);
        y.grid(0, 0, 1, 3, 1);
        y.choose(0, 0, 0, 0, 1);
        y.passes(0, 1, 5);
        y.zero(3);
        y.write();
        y.read();
        y.grid(0, 0, 1, 1, 1);
        y.component();
        y.choose(1, 0, 0, 0, 0);
        Check.got("nothing is read of it", y, 0, 0, 0, 0, -1);
        Check.heads("nothing is told of it", y, "0", "0");
        y.passes(0, 1, 0);
        Check.heads("no zero planes", y, "0", "1 1 1 0 0 000");
    }

    /** "Layers below 1 are 1, above 8 they are 8". */
    private static void layersBelowOneAndAboveEight() {
        int[][] cases = {
            {MIN, 1}, {-1, 1}, {0, 1}, {1, 1}, {2, 2}, {7, 7}, {8, 8}, {9, 8}, {10, 8}, {MAX, 8}
        };
        for (int[] c : cases) {
            PacketRows x = new PacketRows(c[0], 0);
            Check.due("layers " + c[0], x.packets(), c[1]);
            x.passes(c[1] - 1, 1, 1);
            Check.outOfBounds("layers " + c[0], () -> x.passes(c[1], 1, 1));
        }
    }

    /** "levels likewise 0 to 3". */
    private static void levelsBelowZeroAndAboveThree() {
        int[][] cases = {
            {MIN, 0}, {-2, 0}, {-1, 0}, {0, 0}, {1, 1}, {2, 2}, {3, 3}, {4, 3}, {5, 3}, {MAX, 3}
        };
        for (int[] c : cases) {
            PacketRows x = new PacketRows(1, c[0]);
            Check.due("levels " + c[0], x.packets(), c[1] + 1);
            Check.due("blocks", x.told(1), 1 + 3 * c[1]);
            Check.due("the last resolution", x.grid(0, c[1], 1, 1, 1), 1);
            Check.outOfBounds("levels " + c[0], () -> x.grid(0, c[1] + 1, 1, 1, 1));
        }
    }

    /** "One component". */
    private static void oneComponent() {
        PacketRows x = new PacketRows(3, 2);
        Check.due("told(3)", x.told(3), 1);
        Check.due("component 0", x.choose(0, 0, 0, 0, 0), 0);
        Check.outOfBounds("component 1", () -> x.choose(1, 0, 0, 0, 0));
    }

    /** "block 0 of band 0 of precinct 0 of resolution 0 of component 0 is chosen". */
    private static void firstBlockIsChosen() {
        PacketRows x = new PacketRows(1, 2);
        x.zero(2);
        x.passes(0, 1, 6);
        Check.heads("resolution 0 has it", x, "1 1 001 0 0 110", "0", "0");
        x.read();
        Check.got("not chosen by name", x, 0, 1, 6, 2, 0);
        x.choose(0, 0, 0, 0, 0);
        Check.got("chosen by name", x, 0, 1, 6, 2, 0);
    }

    /** "A component more: its number". */
    private static void aComponentMore() {
        PacketRows x = new PacketRows(1, 1);
        x.choose(0, 1, 0, 2, 0);
        x.passes(0, 1, 7);
        Check.due("component()", x.component(), 1);
        Check.due("told(3)", x.told(3), 2);
        Check.due("component()", x.component(), 2);
        Check.due("told(3)", x.told(3), 3);
        x.write();
        x.read();
        Check.got("the chosen block stays", x, 0, 1, 7, 0, 0);
    }

    /** "NONE when there are 3". */
    private static void noneWhenThereAreThree() {
        PacketRows x = new PacketRows(1, 1);
        x.component();
        x.component();
        x.choose(2, 1, 0, 2, 0);
        x.passes(0, 1, 7);
        x.write();
        for (int i = 0; i < 3; i++) {
            Check.due("component() with 3", x.component(), -1);
            Check.due("told(1)", x.told(1), 12);
            Check.due("told(3)", x.told(3), 3);
            Check.due("packets()", x.packets(), 6);
            Check.due("packet(5, 4)", x.packet(5, 4), 5);
        }
        x.read();
        Check.got("the chosen block stays", x, 0, 1, 7, 0, 0);
    }

    /** "Precincts and blocks of a component's resolution: 1", of each least and greatest count. */
    private static void gridAnswersOne() {
        int[][] cases = {{1, 1, 1}, {4, 1, 1}, {1, 4, 1}, {1, 1, 3}, {4, 4, 3}};
        for (int[] c : cases) {
            PacketRows x = new PacketRows(1, 1);
            Check.due("grid", x.grid(0, 1, c[0], c[1], c[2]), 1);
            Check.due("told(1)", x.told(1), 1 + 3 * c[0] * c[1] * c[2]);
            Check.due("packets()", x.packets(), 1 + c[0]);
            Check.due("back again", x.grid(0, 1, 1, 1, 1), 1);
            Check.due("told(1)", x.told(1), 4);
        }
    }

    /** "NONE when there would be more than 400 blocks in all", by the last of four grids. */
    private static void noneAbove400() {
        int[][] all400 = {{2, 2, 1}, {4, 4, 3}, {4, 4, 3}, {3, 4, 3}};
        int[][] all399 = {{3, 1, 1}, {4, 4, 3}, {4, 4, 3}, {3, 4, 3}};
        int[][] all401 = {{4, 4, 2}, {4, 4, 3}, {4, 4, 3}, {3, 3, 3}};
        for (int last = 0; last < 4; last++) {
            lastOfFour("399", all399, last, 1, 399);
            lastOfFour("400", all400, last, 1, 400);
            int without = 401 - size(last, all401[last]) + (last == 0 ? 1 : 3);
            lastOfFour("401", all401, last, -1, without);
        }
        // The old blocks of the same resolution do not count.
        PacketRows x = lastOfFour("400", all400, 0, 1, 400);
        Check.due("the same again", x.grid(0, 1, 4, 4, 3), 1);
        Check.due("as many in another way", x.grid(0, 0, 4, 1, 1), 1);
        Check.due("told(1)", x.told(1), 400);
        Check.due("402", x.grid(0, 0, 2, 3, 1), -1);
        Check.due("fewer", x.grid(0, 0, 3, 1, 1), 1);
        Check.due("told(1)", x.told(1), 399);
    }

    private static int size(int resolution, int[] counts) {
        return (resolution == 0 ? 1 : 3) * counts[0] * counts[1] * counts[2];
    }

    private static PacketRows lastOfFour(String name, int[][] counts, int last, int answer,
            int blocks) {
        PacketRows x = new PacketRows(1, 3);
        for (int r = 0; r < 4; r++) {
            if (r != last) {
                Check.due(name, x.grid(0, r, counts[r][0], counts[r][1], counts[r][2]), 1);
            }
        }
        int[] c = counts[last];
        Check.due(name + ", resolution " + last, x.grid(0, last, c[0], c[1], c[2]), answer);
        Check.due(name + ": told(1)", x.told(1), blocks);
        return x;
    }

    /** "in all": of all components. */
    private static void noneAbove400InThreeComponents() {
        for (int late = 0; late < 3; late++) {
            PacketRows x = new PacketRows(1, 1);
            x.component();
            x.component();
            for (int c = 0; c < 3; c++) {
                if (c != late) {
                    x.grid(c, 0, 4, 4, 3);
                    x.grid(c, 1, 4, 4, 3);
                }
            }
            Check.due("grid to 395", x.grid(late, 0, 1, 4, 2), 1);
            Check.due("told(1)", x.told(1), 395);
            Check.due("grid to 401", x.grid(late, 1, 3, 1, 1), -1);
            Check.due("told(1)", x.told(1), 395);
            Check.due("grid to 398", x.grid(late, 1, 2, 1, 1), 1);
            Check.due("told(1)", x.told(1), 398);
            Check.due("grid to 402", x.grid(late, 0, 1, 4, 3), -1);
            Check.due("grid to 394", x.grid(late, 0, 1, 4, 1), 1);
            Check.due("grid to 400", x.grid(late, 1, 2, 2, 1), 1);
            Check.due("told(1)", x.told(1), 400);
        }
    }

    /** Promise 2 tells of no limit but 3 components, promise 3 of 400 blocks: for grid alone. */
    private static void componentsAreNotCountedAgainst400() {
        PacketRows x = lastOfFour("400", new int[][] {{2, 2, 1}, {4, 4, 3}, {4, 4, 3}, {3, 4, 3}},
                3, 1, 400);
        Check.due("component()", x.component(), 1);
        Check.due("told(1)", x.told(1), 410);
        Check.due("grid that leaves 410", x.grid(1, 3, 1, 1, 1), -1);
        Check.due("grid to 407", x.grid(0, 0, 1, 1, 1), -1);
        Check.due("told(1)", x.told(1), 410);
        Check.due("grid to 374", x.grid(0, 3, 2, 4, 3), 1);
        Check.due("told(1)", x.told(1), 374);
    }

    /** The most blocks there can be: all of them are told and read like any other. */
    private static void mostBlocksThereCanBe() {
        // Without levels no grids come to 400.
        PacketRows small = new PacketRows(8, 0);
        for (int c = 0; c < 3; c++) {
            Check.due("grid", small.grid(c, 0, 4, 4, 3), 1);
            small.component();
        }
        Check.due("told(1)", small.told(1), 144);
        firstAndLast(small, new int[] {2, 0, 3, 0, 11}, 143);
        // With one level the third component comes to 388, and grids to 400.
        PacketRows one = new PacketRows(8, 1);
        for (int c = 0; c < 2; c++) {
            Check.due("grid", one.grid(c, 0, 4, 4, 3), 1);
            Check.due("grid", one.grid(c, 1, 4, 4, 3), 1);
            one.component();
        }
        Check.due("grid", one.grid(2, 0, 2, 2, 1), 1);
        Check.due("grid", one.grid(2, 1, 2, 2, 1), 1);
        Check.due("told(1)", one.told(1), 400);
        firstAndLast(one, new int[] {2, 1, 1, 2, 1}, 399);
        // With two levels the third component may come behind 400, with three levels two may.
        PacketRows two = new PacketRows(8, 2);
        Check.due("grid", two.grid(0, 0, 4, 4, 3), 1);
        Check.due("grid", two.grid(0, 1, 4, 4, 3), 1);
        Check.due("grid", two.grid(0, 2, 4, 4, 3), 1);
        two.component();
        Check.due("grid", two.grid(1, 0, 4, 1, 1), 1);
        Check.due("grid", two.grid(1, 2, 1, 4, 3), 1);
        Check.due("grid", two.grid(1, 1, 2, 4, 1), 1);
        Check.due("told(1)", two.told(1), 400);
        two.component();
        Check.due("told(1)", two.told(1), 407);
        firstAndLast(two, new int[] {2, 2, 0, 2, 0}, 406);
        PacketRows three = new PacketRows(8, 3);
        Check.due("grid", three.grid(0, 0, 2, 2, 1), 1);
        Check.due("grid", three.grid(0, 1, 4, 4, 3), 1);
        Check.due("grid", three.grid(0, 2, 4, 4, 3), 1);
        Check.due("grid", three.grid(0, 3, 3, 4, 3), 1);
        three.component();
        three.component();
        Check.due("told(1)", three.told(1), 420);
        firstAndLast(three, new int[] {2, 3, 0, 2, 0}, 419);
    }

    private static void firstAndLast(PacketRows x, int[] last, int number) {
        x.choose(0, 0, 0, 0, 0);
        x.passes(7, 164, 65535);
        x.zero(30);
        Check.due("the last block", x.choose(last[0], last[1], last[2], last[3], last[4]), number);
        for (int layer = 0; layer < 8; layer++) {
            x.passes(layer, 1 + layer, 10 + layer);
        }
        x.zero(29);
        Check.due("write()", x.write() > 0 ? 1 : 0, 1);
        Check.due("read()", x.read(), x.packets());
        for (int layer = 0; layer < 8; layer++) {
            Check.got("the last block", x, layer, 1 + layer, 10 + layer, 29, 0);
        }
        x.choose(0, 0, 0, 0, 0);
        Check.got("the first block", x, 7, 164, 65535, 30, 7);
    }

    /** "What was told .. of its blocks is gone", with other counts and with the same ones. */
    private static void toldIsGone() {
        int[][] counts = {{1, 1, 1}, {2, 2, 1}, {2, 3, 2}};
        for (int[] c : counts) {
            PacketRows x = new PacketRows(1, 0);
            x.grid(0, 0, 2, 2, 1);
            for (int i = 0; i < 4; i++) {
                x.choose(0, 0, i / 2, 0, i % 2);
                x.passes(0, 2, 5);
                x.zero(3);
            }
            x.grid(0, 0, c[0], c[1], c[2]);
            Check.due("write()", x.write(), c[0]);
            for (int p = 0; p < c[0]; p++) {
                Check.due("passes are gone", x.byteAt(p), 0);
            }
            // One block with passes tells the least zero planes of all: they are gone too.
            x.choose(0, 0, c[0] - 1, 0, c[1] * c[2] - 1);
            x.passes(0, 1, 0);
            x.write();
            x.read();
            Check.got("zero planes are gone", x, 0, 1, 0, 0, 0);
        }
    }

    /** "What was .. read of its blocks is gone". */
    private static void readIsGone() {
        int[][] counts = {{1, 1, 1}, {2, 2, 1}, {2, 3, 2}};
        for (int[] c : counts) {
            PacketRows x = new PacketRows(1, 0);
            x.grid(0, 0, 2, 2, 1);
            for (int i = 0; i < 4; i++) {
                x.choose(0, 0, i / 2, 0, i % 2);
                x.passes(0, 2, 5);
                x.zero(3);
            }
            x.write();
            x.read();
            Check.got("read", x, 0, 2, 5, 3, 0);
            x.grid(0, 0, c[0], c[1], c[2]);
            Check.got("gone of the chosen one", x, 0, 0, 0, 0, -1);
            x.choose(0, 0, c[0] - 1, 0, c[1] * c[2] - 1);
            Check.got("gone of the last one", x, 0, 0, 0, 0, -1);
        }
    }

    /** "of its blocks": the others stand behind and before them, and stay. */
    private static void toldAndReadOfOthersStay() {
        PacketRows x = new PacketRows(2, 2);
        x.component();
        int[][] others = {{0, 0, 0}, {0, 2, 2}, {1, 0, 0}, {1, 1, 1}};
        for (int i = 0; i < others.length; i++) {
            x.choose(others[i][0], others[i][1], 0, others[i][2], 0);
            x.passes(1, 3 + i, 11 + i);
            x.zero(7 + i);
        }
        x.write();
        x.read();
        int[][] counts = {{4, 4, 3}, {1, 2, 1}, {1, 1, 1}};
        for (int[] c : counts) {
            x.grid(0, 1, c[0], c[1], c[2]);
            for (int i = 0; i < others.length; i++) {
                x.choose(others[i][0], others[i][1], 0, others[i][2], 0);
                Check.got("read of others", x, 1, 3 + i, 11 + i, 7 + i, 1);
            }
            x.write();
            x.read();
            for (int i = 0; i < others.length; i++) {
                x.choose(others[i][0], others[i][1], 0, others[i][2], 0);
                Check.got("told of others", x, 1, 3 + i, 11 + i, 7 + i, 1);
            }
        }
    }

    /** "a chosen one of them is block 0 of band 0 of precinct 0 then". */
    private static void chosenOneOfThem() {
        int[][] chosen = {{0, 0, 0}, {0, 0, 3}, {0, 2, 0}, {1, 0, 0}, {1, 2, 3}};
        int[][] counts = {{1, 1, 1}, {2, 2, 2}, {3, 4, 3}};
        for (int[] from : chosen) {
            for (int[] c : counts) {
                PacketRows x = new PacketRows(1, 1);
                x.grid(0, 1, 2, 2, 2);
                x.choose(0, 1, from[0], from[1], from[2]);
                x.grid(0, 1, c[0], c[1], c[2]);
                x.passes(0, 1, 4);
                x.write();
                x.read();
                Check.due("block 0 of band 0 of precinct 0", x.choose(0, 1, 0, 0, 0), 1);
                Check.got("it was told of", x, 0, 1, 4, 0, 0);
                if (c[0] > from[0] && c[1] * c[2] > from[2]
                        && from[0] + from[1] + from[2] > 0) {
                    x.choose(0, 1, from[0], from[1], from[2]);
                    Check.got("the one before was not", x, 0, 0, 0, 0, -1);
                }
            }
        }
    }

    /** "a chosen one of them": one of others stays chosen, behind and before them. */
    private static void chosenOneOfOthers() {
        int[][] others = {{0, 0, 0, 0, 1}, {0, 2, 1, 2, 0}, {1, 1, 0, 2, 0}};
        for (int[] o : others) {
            PacketRows x = new PacketRows(1, 2);
            x.component();
            x.grid(0, 0, 1, 2, 1);
            x.grid(0, 2, 2, 1, 1);
            x.choose(o[0], o[1], o[2], o[3], o[4]);
            x.grid(0, 1, 2, 3, 3);
            x.passes(0, 1, 4);
            x.grid(0, 1, 1, 1, 1);
            x.write();
            x.read();
            Check.got("still chosen", x, 0, 1, 4, 0, 0);
            x.choose(o[0], o[1], o[2], o[3], o[4]);
            Check.got("by name", x, 0, 1, 4, 0, 0);
        }
    }

    /** "IndexOutOfBoundsException: there is no such component or resolution". */
    private static void gridWithoutComponentOrResolution() {
        PacketRows x = new PacketRows(1, 1);
        x.component();
        Check.due("the last of both", x.grid(1, 1, 2, 1, 1), 1);
        for (int w : new int[] {-1, 2, 3, MIN, MAX}) {
            Check.outOfBounds("component " + w, () -> x.grid(w, 1, 1, 1, 1));
            Check.outOfBounds("resolution " + w, () -> x.grid(1, w, 1, 1, 1));
        }
        Check.due("told(1)", x.told(1), 4 + 1 + 6);
    }

    /** "IllegalArgumentException: the others are not such". */
    private static void gridOfNoSuchCounts() {
        PacketRows x = new PacketRows(1, 0);
        x.grid(0, 0, 2, 2, 2);
        Check.due("the greatest", x.grid(0, 0, 4, 4, 3), 1);
        int[][] wrong = {
            {0, 1, 1}, {5, 1, 1}, {1, 0, 1}, {1, 5, 1}, {1, 1, 0}, {1, 1, 4},
            {-1, 1, 1}, {1, -1, 1}, {1, 1, -1}, {-1, -1, 1}, {1, -1, -1},
            {MIN, 1, 1}, {1, MIN, 1}, {1, 1, MIN}, {MAX, 1, 1}, {1, MAX, 1}, {1, 1, MAX},
            {MAX, MAX, MAX}, {MIN, MIN, MIN}, {1 << 16, 1 << 16, 1}
        };
        for (int[] w : wrong) {
            Check.illegal("grid of " + w[0] + ", " + w[1] + ", " + w[2],
                    () -> x.grid(0, 0, w[0], w[1], w[2]));
        }
        Check.due("told(1)", x.told(1), 48);
        Check.due("the least", x.grid(0, 0, 1, 1, 1), 1);
    }

    /** Both exceptions are due at once: there is no component whose others could be looked at. */
    private static void gridWithBothWrong() {
        PacketRows x = new PacketRows(1, 0);
        Check.outOfBounds("grid(1, 0, 0, 1, 1)", () -> x.grid(1, 0, 0, 1, 1));
        Check.outOfBounds("grid(0, 1, 1, 5, 1)", () -> x.grid(0, 1, 1, 5, 1));
        Check.outOfBounds("grid(-1, -1, -1, -1, -1)", () -> x.grid(-1, -1, -1, -1, -1));
    }

    /** "its number among all, by component, resolution, precinct, band, block". */
    private static void chooseAnswersTheNumber() {
        PacketRows x = new PacketRows(1, 1);
        x.component();
        x.grid(0, 0, 2, 2, 1);
        x.grid(0, 1, 2, 1, 2);
        x.grid(1, 0, 3, 1, 1);
        int[][] due = {
            {0, 0, 0, 0, 0, 0}, {0, 0, 0, 0, 1, 1}, {0, 0, 1, 0, 0, 2}, {0, 0, 1, 0, 1, 3},
            {0, 1, 0, 0, 0, 4}, {0, 1, 0, 0, 1, 5}, {0, 1, 0, 1, 0, 6}, {0, 1, 0, 2, 1, 9},
            {0, 1, 1, 0, 0, 10}, {0, 1, 1, 2, 1, 15}, {1, 0, 0, 0, 0, 16}, {1, 0, 2, 0, 0, 18},
            {1, 1, 0, 0, 0, 19}, {1, 1, 0, 2, 0, 21}
        };
        for (int[] d : due) {
            Check.due("choose", x.choose(d[0], d[1], d[2], d[3], d[4]), d[5]);
        }
        Check.due("told(1)", x.told(1), 22);
    }

    /** "IndexOutOfBoundsException: there is none such", one step beyond each end. */
    private static void chooseOfNone() {
        PacketRows x = new PacketRows(1, 1);
        x.component();
        x.grid(1, 1, 3, 2, 2);
        int[] last = {1, 1, 2, 2, 3};
        int number = x.choose(1, 1, 2, 2, 3);
        Check.due("the last of all", number, x.told(1) - 1);
        for (int axis = 0; axis < 5; axis++) {
            for (int w : new int[] {-1, last[axis] + 1, MIN, MAX}) {
                int[] a = last.clone();
                a[axis] = w;
                Check.outOfBounds("choose, axis " + axis + " is " + w,
                        () -> x.choose(a[0], a[1], a[2], a[3], a[4]));
            }
        }
        x.passes(0, 1, 3);
        x.write();
        x.read();
        x.choose(1, 1, 2, 2, 3);
        Check.got("the chosen one stayed", x, 0, 1, 3, 0, 0);
        // What another resolution or component has is none of this one's.
        Check.outOfBounds("precinct of another resolution", () -> x.choose(1, 0, 1, 0, 0));
        Check.outOfBounds("band of another resolution", () -> x.choose(1, 0, 0, 1, 0));
        Check.outOfBounds("block of another component", () -> x.choose(0, 1, 0, 0, 1));
    }
}
