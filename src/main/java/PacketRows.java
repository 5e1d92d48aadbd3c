import java.util.Arrays;

/**
 * Heads of packets of pictures in layers: a picture is told block by block, its heads are
 * written as bytes, and bytes are read back or refused at the first packet that cannot be.
 *
 * <p>All rows are made in the constructor and used again, so that no call makes an object.
 */
public final class PacketRows {
    public static final int NONE = -1;

    private static final int MOST_LAYERS = 8;
    private static final int MOST_LEVELS = 3;
    private static final int MOST_RESOLUTIONS = 4;
    private static final int MOST_COMPONENTS = 3;
    private static final int MOST_PRECINCTS = 4;
    private static final int MOST_WIDTH = 4;
    private static final int MOST_HEIGHT = 3;
    private static final int MOST_BLOCKS = 400;
    private static final int MOST_ZEROS = 30;
    private static final int MOST_PASSES = 164;
    private static final int MOST_LENGTH = 65535;
    private static final int MOST_PARTS = 6;
    private static final int MOST_BYTES = 6000;
    private static final int MOST_FED = 8;

    private static final int LAYER = 0;
    private static final int RESOLUTION = 1;
    private static final int COMPONENT = 2;
    private static final int PRECINCT = 3;
    private static final int AXES = 4;
    private static final int HEAD_BEGINS = 4;

    /** For each order its axes, the slowest first. */
    private static final int[] ORDERS = {
        LAYER, RESOLUTION, COMPONENT, PRECINCT,
        RESOLUTION, LAYER, COMPONENT, PRECINCT,
        RESOLUTION, PRECINCT, COMPONENT, LAYER,
        PRECINCT, COMPONENT, RESOLUTION, LAYER,
        COMPONENT, PRECINCT, RESOLUTION, LAYER
    };
    private static final int LAST_ORDER = 4;

    private static final int BYTES_END = 1;
    private static final int STUFFING_BROKEN = 2;
    private static final int VALUE_TOO_GREAT = 3;

    private final Picture picture;
    private final Rows toldRows;
    private final Rows readRows;
    private final Order packetOrder;
    private final ByteRow byteRow;
    private final Writer writer;
    private final Reader reader;
    private final Heads heads;
    private int chosenSlot;
    private int chosenOffset;
    private boolean writtenAsTold;
    private int lastFault;
    private int lastReach;

    public PacketRows(int layers, int levels) {
        picture = new Picture(within(layers, 1, MOST_LAYERS), within(levels, 0, MOST_LEVELS));
        toldRows = new Rows(picture.mostBlocks(), picture.layers);
        readRows = new Rows(picture.mostBlocks(), picture.layers);
        packetOrder = new Order(picture);
        byteRow = new ByteRow();
        writer = new Writer(byteRow, picture.mostPackets());
        reader = new Reader(byteRow);
        heads = new Heads(picture, packetOrder);
        packetOrder.list();
    }

    public int component() {
        if (picture.components >= MOST_COMPONENTS) {
            return NONE;
        }
        int before = picture.blocks();
        picture.grow();
        makeRoom(before, 0, picture.blocks() - before, before);
        packetsChanged();
        return picture.components - 1;
    }

    public int grid(int component, int resolution, int precincts, int width, int height)
            throws IndexOutOfBoundsException, IllegalArgumentException {
        int slot = picture.slotOf(component, resolution);
        if (slot == NONE) {
            throw new IndexOutOfBoundsException("no such component or resolution");
        }
        if (!isWithin(precincts, 1, MOST_PRECINCTS) || !isWithin(width, 1, MOST_WIDTH)
                || !isWithin(height, 1, MOST_HEIGHT)) {
            throw new IllegalArgumentException("no such precincts, width or height");
        }
        int before = picture.blocks();
        int old = picture.slotSize(slot);
        int fresh = precincts * picture.bands[slot] * width * height;
        if (before - old + fresh > MOST_BLOCKS) {
            return NONE;
        }
        makeRoom(picture.starts[slot], old, fresh, before);
        picture.shape(slot, precincts, width, height);
        if (chosenSlot == slot) {
            chosenOffset = 0;
        }
        packetsChanged();
        return 1;
    }

    public int choose(int component, int resolution, int precinct, int band, int block)
            throws IndexOutOfBoundsException {
        int slot = picture.slotOf(component, resolution);
        if (slot == NONE || !picture.hasBlock(slot, precinct, band, block)) {
            throw new IndexOutOfBoundsException("no such block");
        }
        chosenSlot = slot;
        chosenOffset = (precinct * picture.bands[slot] + band) * picture.bandSize(slot) + block;
        return chosenBlock();
    }

    public void passes(int layer, int passes, int bytes)
            throws IndexOutOfBoundsException, IllegalArgumentException {
        if (!isWithin(layer, 0, picture.layers - 1)) {
            throw new IndexOutOfBoundsException("no such layer");
        }
        if (!isWithin(passes, 0, MOST_PASSES) || !isWithin(bytes, 0, MOST_LENGTH)) {
            throw new IllegalArgumentException("no such passes or bytes");
        }
        toldRows.put(chosenBlock(), layer, passes, passes == 0 ? 0 : bytes);
        writtenAsTold = false;
    }

    public void zero(int planes) throws IllegalArgumentException {
        if (!isWithin(planes, 0, MOST_ZEROS)) {
            throw new IllegalArgumentException("no such zero planes");
        }
        toldRows.zeros[chosenBlock()] = planes;
        writtenAsTold = false;
    }

    public int part(int order, int layers, int resolutions, int components)
            throws IllegalArgumentException {
        if (!isWithin(order, 0, LAST_ORDER) || !isWithin(layers, 1, MOST_LAYERS)
                || !isWithin(resolutions, 1, MOST_RESOLUTIONS)
                || !isWithin(components, 1, MOST_COMPONENTS)) {
            throw new IllegalArgumentException("no such order or ends");
        }
        if (packetOrder.parts >= MOST_PARTS) {
            return NONE;
        }
        packetOrder.addPart(order, layers, resolutions, components);
        packetsChanged();
        return packetOrder.parts;
    }

    public int whole() {
        int before = packetOrder.parts;
        packetOrder.parts = 0;
        packetsChanged();
        return before;
    }

    public int packets() {
        return packetOrder.packets;
    }

    public int packet(int k, int what) throws IndexOutOfBoundsException {
        if (!isWithin(k, 0, packetOrder.packets - 1) || !isWithin(what, 0, HEAD_BEGINS)) {
            throw new IndexOutOfBoundsException("no such packet or what");
        }
        if (what == HEAD_BEGINS) {
            return writtenAsTold ? writer.begins[k] : NONE;
        }
        return packetOrder.placeOf(k, what);
    }

    public int write() {
        // Measured first, so that the bytes there were stay when the new ones would be too many.
        writer.start(true);
        heads.goOver(writer, toldRows);
        if (writer.size > MOST_BYTES) {
            return NONE;
        }
        writer.start(false);
        heads.goOver(writer, toldRows);
        byteRow.size = writer.size;
        writtenAsTold = true;
        return byteRow.size;
    }

    public int feed(int n, long bytes) throws IllegalArgumentException {
        if (!isWithin(n, 1, MOST_FED)) {
            throw new IllegalArgumentException("no such n");
        }
        if (byteRow.size + n > MOST_BYTES) {
            return NONE;
        }
        for (int i = 0; i < n; i++) {
            byteRow.add((int) (bytes >>> (8 * i)) & 255);
        }
        return byteRow.size;
    }

    public int wipe() {
        int before = byteRow.size;
        byteRow.size = 0;
        return before;
    }

    public int byteAt(int i) {
        return byteRow.at(i);
    }

    public int read() {
        readRows.clear();
        reader.start();
        int done = heads.goOver(reader, readRows);
        lastFault = reader.fault;
        if (lastFault != 0) {
            readRows.clear();
            lastReach = 0;
            return NONE - done;
        }
        lastReach = reader.reach;
        return done;
    }

    public int got(int layer, int what) throws IndexOutOfBoundsException {
        if (!isWithin(layer, 0, picture.layers - 1) || !isWithin(what, 0, 3)) {
            throw new IndexOutOfBoundsException("no such layer or what");
        }
        int block = chosenBlock();
        switch (what) {
            case 0:
                return readRows.passesOf(block, layer);
            case 1:
                return readRows.lengthOf(block, layer);
            case 2:
                return readRows.zeros[block];
            default:
                int first = readRows.firstOf(block);
                return first < picture.layers ? first : NONE;
        }
    }

    public int told(int what) throws IndexOutOfBoundsException {
        switch (what) {
            case 0:
                return byteRow.size;
            case 1:
                return picture.blocks();
            case 2:
                return packetOrder.parts;
            case 3:
                return picture.components;
            case 4:
                return lastFault;
            case 5:
                return lastReach;
            default:
                throw new IndexOutOfBoundsException("no such what");
        }
    }

    private static int within(int value, int least, int most) {
        return Math.max(least, Math.min(most, value));
    }

    private static boolean isWithin(int value, int least, int most) {
        return value >= least && value <= most;
    }

    private int chosenBlock() {
        return picture.starts[chosenSlot] + chosenOffset;
    }

    private void makeRoom(int at, int old, int fresh, int blocks) {
        toldRows.makeRoom(at, old, fresh, blocks);
        readRows.makeRoom(at, old, fresh, blocks);
    }

    private void packetsChanged() {
        packetOrder.list();
        writtenAsTold = false;
    }

    /**
     * The counts of components, precincts and blocks. A slot is a component's resolution; slots
     * are numbered by component, then resolution, so that blocks of a slot stand together.
     */
    private static final class Picture {
        final int layers;
        final int resolutions;
        final int[] bands;
        final int[] precincts;
        final int[] widths;
        final int[] heights;
        /** The first block of each slot, and behind the last slot how many blocks there are. */
        final int[] starts;
        int components;

        Picture(int layers, int levels) {
            this.layers = layers;
            resolutions = levels + 1;
            int slots = MOST_COMPONENTS * resolutions;
            bands = new int[slots];
            precincts = new int[slots];
            widths = new int[slots];
            heights = new int[slots];
            starts = new int[slots + 1];
            grow();
        }

        int mostBlocks() {
            // Components come without a look at the limit, so the last two may go over it.
            int levels = resolutions - 1;
            int byLimit = MOST_BLOCKS + (MOST_COMPONENTS - 1) * (1 + 3 * levels);
            int byGrids = MOST_COMPONENTS * (1 + 3 * levels)
                    * MOST_PRECINCTS * MOST_WIDTH * MOST_HEIGHT;
            return Math.min(byLimit, byGrids);
        }

        int mostPackets() {
            return layers * resolutions * MOST_COMPONENTS * MOST_PRECINCTS;
        }

        int slots() {
            return components * resolutions;
        }

        int slotOf(int component, int resolution) {
            if (!isWithin(component, 0, components - 1)
                    || !isWithin(resolution, 0, resolutions - 1)) {
                return NONE;
            }
            return component * resolutions + resolution;
        }

        int blocks() {
            return starts[slots()];
        }

        int bandSize(int slot) {
            return widths[slot] * heights[slot];
        }

        int slotSize(int slot) {
            return precincts[slot] * bands[slot] * bandSize(slot);
        }

        boolean hasBlock(int slot, int precinct, int band, int block) {
            return isWithin(precinct, 0, precincts[slot] - 1)
                    && isWithin(band, 0, bands[slot] - 1)
                    && isWithin(block, 0, bandSize(slot) - 1);
        }

        void grow() {
            int from = slots();
            components++;
            for (int r = 0; r < resolutions; r++) {
                bands[from + r] = r == 0 ? 1 : 3;
                precincts[from + r] = 1;
                widths[from + r] = 1;
                heights[from + r] = 1;
            }
            numberBlocks();
        }

        void shape(int slot, int newPrecincts, int width, int height) {
            precincts[slot] = newPrecincts;
            widths[slot] = width;
            heights[slot] = height;
            numberBlocks();
        }

        private void numberBlocks() {
            for (int slot = 0; slot < slots(); slot++) {
                starts[slot + 1] = starts[slot] + slotSize(slot);
            }
        }
    }

    /** What is known of all blocks, by their numbers: told by the caller, or read from bytes. */
    private static final class Rows {
        private final int layers;
        private final int[] passes;
        private final int[] lengths;
        final int[] zeros;

        Rows(int mostBlocks, int layers) {
            this.layers = layers;
            passes = new int[mostBlocks * layers];
            lengths = new int[mostBlocks * layers];
            zeros = new int[mostBlocks];
        }

        int passesOf(int block, int layer) {
            return passes[block * layers + layer];
        }

        int lengthOf(int block, int layer) {
            return lengths[block * layers + layer];
        }

        /** The least layer with passes, or how many layers there are. */
        int firstOf(int block) {
            for (int layer = 0; layer < layers; layer++) {
                if (passesOf(block, layer) > 0) {
                    return layer;
                }
            }
            return layers;
        }

        boolean anyComes(int layer, int from, int to) {
            for (int block = from; block < to; block++) {
                if (passesOf(block, layer) > 0) {
                    return true;
                }
            }
            return false;
        }

        void put(int block, int layer, int count, int length) {
            passes[block * layers + layer] = count;
            lengths[block * layers + layer] = length;
        }

        void clear() {
            Arrays.fill(passes, 0);
            Arrays.fill(lengths, 0);
            Arrays.fill(zeros, 0);
        }

        /** In place of the old blocks from one on there are fresh ones, of which nothing is known. */
        void makeRoom(int at, int old, int fresh, int blocks) {
            int behind = blocks - at - old;
            replace(passes, at * layers, old * layers, fresh * layers, behind * layers);
            replace(lengths, at * layers, old * layers, fresh * layers, behind * layers);
            replace(zeros, at, old, fresh, behind);
        }

        private static void replace(int[] row, int at, int old, int fresh, int behind) {
            System.arraycopy(row, at + old, row, at + fresh, behind);
            Arrays.fill(row, at, at + fresh, 0);
        }
    }

    /** The parts, and the packets that they bring in turn. */
    private static final class Order {
        /** Layers, resolutions and components have ends; precincts have none. */
        private static final int PART_ENDS = 3;
        private final Picture picture;
        private final int[] partOrders = new int[MOST_PARTS];
        private final int[] partEnds = new int[MOST_PARTS * PART_ENDS];
        private final int[] places;
        private final boolean[] listed;
        private final int[] ends = new int[AXES];
        private final int[] at = new int[AXES];
        int parts;
        int packets;

        Order(Picture picture) {
            this.picture = picture;
            places = new int[picture.mostPackets() * AXES];
            listed = new boolean[picture.mostPackets()];
        }

        void addPart(int order, int layers, int resolutions, int components) {
            partOrders[parts] = order;
            partEnds[parts * PART_ENDS + LAYER] = layers;
            partEnds[parts * PART_ENDS + RESOLUTION] = resolutions;
            partEnds[parts * PART_ENDS + COMPONENT] = components;
            parts++;
        }

        int placeOf(int packet, int axis) {
            return places[packet * AXES + axis];
        }

        void list() {
            packets = 0;
            for (int i = 0; i < listed.length; i++) {
                listed[i] = false;
            }
            if (parts == 0) {
                setEnds(MOST_LAYERS, MOST_RESOLUTIONS, MOST_COMPONENTS);
                goRound(0);
            }
            for (int part = 0; part < parts; part++) {
                int from = part * PART_ENDS;
                setEnds(partEnds[from + LAYER], partEnds[from + RESOLUTION],
                        partEnds[from + COMPONENT]);
                goRound(partOrders[part] * AXES);
            }
        }

        private void setEnds(int layers, int resolutions, int components) {
            ends[LAYER] = Math.min(layers, picture.layers);
            ends[RESOLUTION] = Math.min(resolutions, picture.resolutions);
            ends[COMPONENT] = Math.min(components, picture.components);
            ends[PRECINCT] = MOST_PRECINCTS;
        }

        private void goRound(int order) {
            int slowest = ORDERS[order];
            int slow = ORDERS[order + 1];
            int fast = ORDERS[order + 2];
            int fastest = ORDERS[order + 3];
            for (at[slowest] = 0; at[slowest] < ends[slowest]; at[slowest]++) {
                for (at[slow] = 0; at[slow] < ends[slow]; at[slow]++) {
                    for (at[fast] = 0; at[fast] < ends[fast]; at[fast]++) {
                        for (at[fastest] = 0; at[fastest] < ends[fastest]; at[fastest]++) {
                            listPacket();
                        }
                    }
                }
            }
        }

        private void listPacket() {
            int slot = at[COMPONENT] * picture.resolutions + at[RESOLUTION];
            int mark = (slot * picture.layers + at[LAYER]) * MOST_PRECINCTS + at[PRECINCT];
            if (at[PRECINCT] >= picture.precincts[slot] || listed[mark]) {
                return;
            }
            listed[mark] = true;
            for (int axis = 0; axis < AXES; axis++) {
                places[packets * AXES + axis] = at[axis];
            }
            packets++;
        }
    }

    /** The bytes that were written or fed. */
    private static final class ByteRow {
        final int[] row = new int[MOST_BYTES];
        int size;

        int at(int i) {
            return isWithin(i, 0, size - 1) ? row[i] : NONE;
        }

        void add(int value) {
            if (size < MOST_BYTES) {
                row[size] = value;
                size++;
            }
        }
    }

    /**
     * The bits of heads, one way or the other: each bit is asked for with the value that is due by
     * what was told. Writing takes it and answers the same; reading answers what the bytes hold.
     * So one walk over the heads serves both.
     */
    private abstract static class Bits {
        int fault;

        abstract void beginHead(int packet);

        abstract boolean bit(boolean due);

        abstract void endHead();

        /** The first fault is the one that counts. */
        void fail(int which) {
            if (fault == 0) {
                fault = which;
            }
        }

        int number(int due, int width) {
            int value = 0;
            for (int i = width - 1; i >= 0; i--) {
                value = value << 1 | (bit((due >> i & 1) == 1) ? 1 : 0);
            }
            return value;
        }
    }

    private static final class Writer extends Bits {
        private final ByteRow byteRow;
        final int[] begins;
        int size;
        private boolean measuring;
        private int current;
        private int free;

        Writer(ByteRow byteRow, int mostPackets) {
            this.byteRow = byteRow;
            begins = new int[mostPackets];
        }

        void start(boolean measureOnly) {
            measuring = measureOnly;
            size = 0;
            current = 0;
            free = 8;
        }

        void beginHead(int packet) {
            if (!measuring) {
                begins[packet] = size;
            }
        }

        boolean bit(boolean due) {
            free--;
            current |= (due ? 1 : 0) << free;
            if (free == 0) {
                if (!measuring && size < MOST_BYTES) {
                    byteRow.row[size] = current;
                }
                size++;
                free = current == 255 ? 7 : 8;
                current = 0;
            }
            return due;
        }

        void endHead() {
            // A byte begun behind 255 has 7 free bits, so it is filled up too, even if still empty.
            for (int i = 0; i < 8 && free < 8; i++) {
                bit(false);
            }
        }
    }

    private static final class Reader extends Bits {
        private final ByteRow byteRow;
        int reach;
        private int current;
        private int left;

        Reader(ByteRow byteRow) {
            this.byteRow = byteRow;
        }

        void start() {
            fault = 0;
            reach = 0;
        }

        void beginHead(int packet) {
            current = 0;
            left = 0;
        }

        /** Behind a fault all bits are 0: so every loop over them ends, and nothing is moved. */
        boolean bit(boolean due) {
            if (fault == 0 && left == 0) {
                boolean behind255 = current == 255;
                if (reach >= byteRow.size) {
                    fault = BYTES_END;
                } else if (behind255 && byteRow.row[reach] > 127) {
                    fault = STUFFING_BROKEN;
                } else {
                    current = byteRow.row[reach];
                    left = behind255 ? 7 : 8;
                    reach++;
                }
            }
            if (fault != 0) {
                return false;
            }
            left--;
            return (current >> left & 1) == 1;
        }

        void endHead() {
            if (current == 255) {
                // The byte behind belongs to this head: a bit asked of it brings it in.
                left = 0;
                bit(false);
            }
        }
    }

    /**
     * The trees of one kind of value, for all bands. The nodes of a band stand from twice its
     * first block's number on (it never has more than two for a block): first those of its
     * blocks, then row upon row of those above, so that a node stands behind all below it.
     */
    private static final class Tree {
        private static final int MOST_ROWS = 3;
        private static final int ABOVE_ALL = 1000;
        private final int[] parents;
        private final int[] values;
        private final int[] lows;
        private final boolean[] done;
        private final int[] path = new int[MOST_ROWS];

        /** The parents are shared by both kinds of trees. */
        Tree(int[] parents) {
            this.parents = parents;
            values = new int[parents.length];
            lows = new int[parents.length];
            done = new boolean[parents.length];
        }

        static void plant(int[] parents, int at, int bandWidth, int bandHeight) {
            int row = at;
            int width = bandWidth;
            int height = bandHeight;
            for (int rows = 1; rows < MOST_ROWS && width * height > 1; rows++) {
                int above = row + width * height;
                int widthAbove = (width + 1) / 2;
                for (int y = 0; y < height; y++) {
                    for (int x = 0; x < width; x++) {
                        parents[row + y * width + x] = above + y / 2 * widthAbove + x / 2;
                    }
                }
                row = above;
                width = widthAbove;
                height = (height + 1) / 2;
            }
        }

        void clear(int nodes) {
            for (int node = 0; node < nodes; node++) {
                values[node] = ABOVE_ALL;
                lows[node] = 0;
                done[node] = false;
            }
        }

        void setLeaf(int leaf, int value) {
            values[leaf] = value;
        }

        void gatherLeasts(int nodes) {
            for (int node = 0; node < nodes; node++) {
                int parent = parents[node];
                if (parent != NONE) {
                    values[parent] = Math.min(values[parent], values[node]);
                }
            }
        }

        boolean isDone(int leaf) {
            return done[leaf];
        }

        int tell(Bits bits, int leaf, int end) {
            int rows = 0;
            for (int node = leaf; node != NONE && rows < MOST_ROWS; node = parents[node]) {
                path[rows] = node;
                rows++;
            }
            int low = 0;
            for (int row = rows - 1; row >= 0; row--) {
                int node = path[row];
                low = Math.max(low, lows[node]);
                while (low < end && !done[node]) {
                    if (bits.bit(values[node] == low)) {
                        done[node] = true;
                    } else {
                        low++;
                    }
                }
                lows[node] = low;
            }
            return low;
        }
    }

    /** The walk over all heads, for writing and for reading alike. */
    private static final class Heads {
        private static final int FIRST_GROWTH = 3;
        private static final int MOST_LENGTH_BITS = 24;
        /** As good as 1000: no ZERO planes are above 30, and to come to 31 is a fault at once. */
        private static final int ZEROS_END = MOST_ZEROS + 1;
        private final Picture picture;
        private final Order order;
        private final int[] parents;
        private final Tree firsts;
        private final Tree zeros;
        private final int[] growths;
        private final boolean[] begun;

        Heads(Picture picture, Order order) {
            this.picture = picture;
            this.order = order;
            parents = new int[2 * picture.mostBlocks()];
            firsts = new Tree(parents);
            zeros = new Tree(parents);
            growths = new int[picture.mostBlocks()];
            begun = new boolean[picture.mostBlocks()];
        }

        /** Answers how many packets were gone over without a fault. */
        int goOver(Bits bits, Rows rows) {
            forget();
            for (int slot = 0; slot < picture.slots(); slot++) {
                plantSlot(rows, slot);
            }
            firsts.gatherLeasts(2 * picture.blocks());
            zeros.gatherLeasts(2 * picture.blocks());
            for (int packet = 0; packet < order.packets; packet++) {
                bits.beginHead(packet);
                head(bits, rows, packet);
                bits.endHead();
                if (bits.fault != 0) {
                    return packet;
                }
            }
            return order.packets;
        }

        private void forget() {
            int blocks = picture.blocks();
            Arrays.fill(parents, NONE);
            firsts.clear(2 * blocks);
            zeros.clear(2 * blocks);
            for (int block = 0; block < blocks; block++) {
                growths[block] = FIRST_GROWTH;
                begun[block] = false;
            }
        }

        private void plantSlot(Rows rows, int slot) {
            int size = picture.bandSize(slot);
            int bands = picture.precincts[slot] * picture.bands[slot];
            for (int band = 0; band < bands; band++) {
                int from = picture.starts[slot] + band * size;
                Tree.plant(parents, 2 * from, picture.widths[slot], picture.heights[slot]);
                for (int block = from; block < from + size; block++) {
                    firsts.setLeaf(from + block, rows.firstOf(block));
                    zeros.setLeaf(from + block, rows.zeros[block]);
                }
            }
        }

        private void head(Bits bits, Rows rows, int packet) {
            int layer = order.placeOf(packet, LAYER);
            int slot = order.placeOf(packet, COMPONENT) * picture.resolutions
                    + order.placeOf(packet, RESOLUTION);
            int size = picture.bandSize(slot);
            int bands = picture.bands[slot];
            int from = picture.starts[slot] + order.placeOf(packet, PRECINCT) * bands * size;
            if (!bits.bit(rows.anyComes(layer, from, from + bands * size))) {
                return;
            }
            for (int band = 0; band < bands; band++) {
                int first = from + band * size;
                for (int block = first; block < first + size; block++) {
                    tellBlock(bits, rows, layer, block, first + block);
                }
            }
        }

        /** What the bits answer is kept in the rows: writing puts back what stood there. */
        private void tellBlock(Bits bits, Rows rows, int layer, int block, int leaf) {
            if (begun[block]) {
                if (!bits.bit(rows.passesOf(block, layer) > 0)) {
                    return;
                }
            } else {
                firsts.tell(bits, leaf, layer + 1);
                if (!firsts.isDone(leaf)) {
                    return;
                }
                begun[block] = true;
                rows.zeros[block] = zeros.tell(bits, leaf, ZEROS_END);
                if (!zeros.isDone(leaf)) {
                    bits.fail(VALUE_TOO_GREAT);
                }
            }
            int count = tellPasses(bits, rows.passesOf(block, layer));
            int length = tellLength(bits, block, count, rows.lengthOf(block, layer));
            rows.put(block, layer, count, length);
        }

        /** A group of ones alone says that the count is beyond what the group can tell. */
        private static int tellPasses(Bits bits, int due) {
            if (!bits.bit(due > 1)) {
                return 1;
            }
            if (!bits.bit(due > 2)) {
                return 2;
            }
            int few = bits.number(Math.min(due - 3, 3), 2);
            if (few < 3) {
                return 3 + few;
            }
            int some = bits.number(Math.min(due - 6, 31), 5);
            if (some < 31) {
                return 6 + some;
            }
            return 37 + bits.number(due - 37, 7);
        }

        private int tellLength(Bits bits, int block, int count, int due) {
            int extra = powerNotAbove(count);
            int width = growths[block] + extra;
            while (width <= MOST_LENGTH_BITS && bits.bit(due >> width > 0)) {
                width++;
            }
            if (width > MOST_LENGTH_BITS) {
                bits.fail(VALUE_TOO_GREAT);
                return 0;
            }
            growths[block] = width - extra;
            return bits.number(due, width);
        }

        private static int powerNotAbove(int count) {
            int power = 0;
            while (power < 8 && 2 << power <= count) {
                power++;
            }
            return power;
        }
    }
}
