import java.util.ArrayList;
import java.util.HashMap;
import java.util.HashSet;
import java.util.List;
import java.util.Map;
import java.util.Set;

/**
 * The document told a second time, as plainly as can be and without regard to what it costs:
 * blocks are objects, heads are texts of 0 and 1, packets are sorted. It shares nothing with the
 * class under test.
 */
final class Model {
    private static final String[] LETTERS = {"LRCP", "RLCP", "RPCL", "PCRL", "CPRL"};

    private static final class Fault extends RuntimeException {
        private static final long serialVersionUID = 1L;
        final int which;

        Fault(int which) {
            this.which = which;
        }
    }

    private static final class Block {
        final int[] passes = new int[8];
        final int[] bytes = new int[8];
        int zeros;
        int[] readPasses = new int[8];
        int[] readBytes = new int[8];
        int readZeros;
        int growth;
        boolean begun;

        int first(int layers) {
            for (int l = 0; l < layers; l++) {
                if (passes[l] > 0) {
                    return l;
                }
            }
            return layers;
        }

        void forgetRead() {
            readPasses = new int[8];
            readBytes = new int[8];
            readZeros = 0;
        }
    }

    private static final class Band {
        final List<Block> blocks = new ArrayList<>();
        final Map<String, Integer> toldOf = new HashMap<>();
        final Set<String> done = new HashSet<>();
    }

    private static final class Grid {
        final int width;
        final int height;
        final List<List<Band>> precincts = new ArrayList<>();

        Grid(int resolution, int precincts, int width, int height) {
            this.width = width;
            this.height = height;
            for (int p = 0; p < precincts; p++) {
                List<Band> bands = new ArrayList<>();
                for (int b = 0; b < (resolution == 0 ? 1 : 3); b++) {
                    Band band = new Band();
                    for (int i = 0; i < width * height; i++) {
                        band.blocks.add(new Block());
                    }
                    bands.add(band);
                }
                this.precincts.add(bands);
            }
        }

        List<Block> blocks() {
            List<Block> all = new ArrayList<>();
            for (List<Band> bands : precincts) {
                for (Band band : bands) {
                    all.addAll(band.blocks);
                }
            }
            return all;
        }
    }

    private final int layers;
    private final int resolutions;
    private final List<List<Grid>> components = new ArrayList<>();
    private final List<int[]> parts = new ArrayList<>();
    private List<Integer> bytes = new ArrayList<>();
    private List<Integer> begins;
    private Block chosen;
    private int fault;
    private int reach;
    private int at;
    private String bits;
    private boolean inHead;

    Model(int layers, int levels) {
        this.layers = layers < 1 ? 1 : layers > 8 ? 8 : layers;
        resolutions = 1 + (levels < 0 ? 0 : levels > 3 ? 3 : levels);
        component();
        chosen = allBlocks().get(0);
    }

    private List<Block> allBlocks() {
        List<Block> all = new ArrayList<>();
        for (List<Grid> component : components) {
            for (Grid grid : component) {
                all.addAll(grid.blocks());
            }
        }
        return all;
    }

    int component() {
        if (components.size() == 3) {
            return -1;
        }
        List<Grid> grids = new ArrayList<>();
        for (int r = 0; r < resolutions; r++) {
            grids.add(new Grid(r, 1, 1, 1));
        }
        components.add(grids);
        begins = null;
        return components.size() - 1;
    }

    private boolean hasNot(int component, int resolution) {
        return component < 0 || component >= components.size()
                || resolution < 0 || resolution >= resolutions;
    }

    int grid(int component, int resolution, int precincts, int width, int height) {
        if (hasNot(component, resolution)) {
            throw new IndexOutOfBoundsException();
        }
        if (precincts < 1 || precincts > 4 || width < 1 || width > 4 || height < 1 || height > 3) {
            throw new IllegalArgumentException();
        }
        Grid old = components.get(component).get(resolution);
        Grid fresh = new Grid(resolution, precincts, width, height);
        if (allBlocks().size() - old.blocks().size() + fresh.blocks().size() > 400) {
            return -1;
        }
        components.get(component).set(resolution, fresh);
        if (old.blocks().contains(chosen)) {
            chosen = fresh.blocks().get(0);
        }
        begins = null;
        return 1;
    }

    int choose(int component, int resolution, int precinct, int band, int block) {
        if (hasNot(component, resolution)) {
            throw new IndexOutOfBoundsException();
        }
        Grid grid = components.get(component).get(resolution);
        chosen = grid.precincts.get(precinct).get(band).blocks.get(block);
        return allBlocks().indexOf(chosen);
    }

    void passes(int layer, int passes, int length) {
        if (layer < 0 || layer >= layers) {
            throw new IndexOutOfBoundsException();
        }
        if (passes < 0 || passes > 164 || length < 0 || length > 65535) {
            throw new IllegalArgumentException();
        }
        chosen.passes[layer] = passes;
        chosen.bytes[layer] = length;
        begins = null;
    }

    void zero(int planes) {
        if (planes < 0 || planes > 30) {
            throw new IllegalArgumentException();
        }
        chosen.zeros = planes;
        begins = null;
    }

    int part(int order, int ends1, int ends2, int ends3) {
        if (order < 0 || order > 4 || ends1 < 1 || ends1 > 8 || ends2 < 1 || ends2 > 4
                || ends3 < 1 || ends3 > 3) {
            throw new IllegalArgumentException();
        }
        if (parts.size() == 6) {
            return -1;
        }
        parts.add(new int[] {order, ends1, ends2, ends3});
        begins = null;
        return parts.size();
    }

    int whole() {
        int were = parts.size();
        parts.clear();
        begins = null;
        return were;
    }

    /** All packets as texts of their four numbers, in turn. */
    private List<String> listed() {
        List<int[]> inTurn = new ArrayList<>(parts);
        if (inTurn.isEmpty()) {
            inTurn.add(new int[] {0, 8, 4, 3});
        }
        List<String> all = new ArrayList<>();
        for (int[] part : inTurn) {
            List<String> mine = new ArrayList<>();
            for (int c = 0; c < Math.min(part[3], components.size()); c++) {
                for (int r = 0; r < Math.min(part[2], resolutions); r++) {
                    for (int p = 0; p < components.get(c).get(r).precincts.size(); p++) {
                        for (int l = 0; l < Math.min(part[1], layers); l++) {
                            mine.add("" + l + r + c + p);
                        }
                    }
                }
            }
            mine.sort((a, b) -> inOrder(a, part[0]).compareTo(inOrder(b, part[0])));
            mine.removeAll(all);
            all.addAll(mine);
        }
        return all;
    }

    private static String inOrder(String packet, int order) {
        StringBuilder key = new StringBuilder();
        for (char letter : LETTERS[order].toCharArray()) {
            key.append(packet.charAt("LRCP".indexOf(letter)));
        }
        return key.toString();
    }

    int packets() {
        return listed().size();
    }

    int packet(int k, int what) {
        List<String> all = listed();
        if (k < 0 || k >= all.size() || what < 0 || what > 4) {
            throw new IndexOutOfBoundsException();
        }
        if (what == 4) {
            return begins == null ? -1 : begins.get(k);
        }
        return all.get(k).charAt(what) - '0';
    }

    private void begin() {
        for (List<Grid> component : components) {
            for (Grid grid : component) {
                for (List<Band> bands : grid.precincts) {
                    for (Band band : bands) {
                        band.toldOf.clear();
                        band.done.clear();
                    }
                }
                for (Block block : grid.blocks()) {
                    block.growth = 3;
                    block.begun = false;
                }
            }
        }
    }

    private Grid gridOf(String packet) {
        return components.get(packet.charAt(2) - '0').get(packet.charAt(1) - '0');
    }

    /** How many times halves are taken until one node is left. */
    private static int top(Grid grid) {
        int up = 0;
        while ((grid.width - 1 >> up) > 0 || (grid.height - 1 >> up) > 0) {
            up++;
        }
        return up;
    }

    private int least(Grid grid, Band band, String kind, int up, int x, int y) {
        int least = 5000;
        for (int i = 0; i < band.blocks.size(); i++) {
            if (i % grid.width >> up == x && i / grid.width >> up == y) {
                Block block = band.blocks.get(i);
                least = Math.min(least, kind.equals("first") ? block.first(layers) : block.zeros);
            }
        }
        return least;
    }

    private String tell(Grid grid, Band band, String kind, int index, int end) {
        StringBuilder out = new StringBuilder();
        int low = 0;
        for (int up = top(grid); up >= 0; up--) {
            int x = index % grid.width >> up;
            int y = index / grid.width >> up;
            String node = kind + " " + up + " " + x + " " + y;
            low = Math.max(low, band.toldOf.getOrDefault(node, 0));
            int value = least(grid, band, kind, up, x, y);
            while (low < end && !band.done.contains(node)) {
                if (value == low) {
                    out.append('1');
                    band.done.add(node);
                } else {
                    out.append('0');
                    low++;
                }
            }
            band.toldOf.put(node, low);
        }
        return out.toString();
    }

    private String headOf(String packet) {
        int layer = packet.charAt(0) - '0';
        Grid grid = gridOf(packet);
        List<Band> bands = grid.precincts.get(packet.charAt(3) - '0');
        boolean any = false;
        for (Band band : bands) {
            for (Block block : band.blocks) {
                any |= block.passes[layer] > 0;
            }
        }
        if (!any) {
            return "0";
        }
        StringBuilder out = new StringBuilder("1");
        for (Band band : bands) {
            for (int i = 0; i < band.blocks.size(); i++) {
                Block block = band.blocks.get(i);
                boolean comes = block.passes[layer] > 0;
                boolean before = block.first(layers) < layer;
                if (before) {
                    out.append(comes ? "1" : "0");
                } else {
                    out.append(tell(grid, band, "first", i, layer + 1));
                }
                if (comes) {
                    if (!before) {
                        out.append(tell(grid, band, "zeros", i, 1000));
                    }
                    out.append(passesAsBits(block.passes[layer]));
                    out.append(bytesAsBits(block, layer));
                }
            }
        }
        return out.toString();
    }

    private static String binary(int value, int width) {
        String text = Integer.toBinaryString(value);
        return width == 0 ? "" : "0".repeat(width - text.length()) + text;
    }

    private static String passesAsBits(int n) {
        if (n == 1) {
            return "0";
        }
        if (n == 2) {
            return "10";
        }
        if (n <= 5) {
            return "11" + binary(n - 3, 2);
        }
        return n <= 36 ? "1111" + binary(n - 6, 5) : "111111111" + binary(n - 37, 7);
    }

    private static int log(int n) {
        return Integer.toBinaryString(n).length() - 1;
    }

    private static String bytesAsBits(Block block, int layer) {
        int need = Integer.toBinaryString(block.bytes[layer]).length();
        int more = Math.max(0, need - block.growth - log(block.passes[layer]));
        block.growth += more;
        return "1".repeat(more) + "0"
                + binary(block.bytes[layer], block.growth + log(block.passes[layer]));
    }

    int write() {
        begin();
        List<Integer> fresh = new ArrayList<>();
        List<Integer> starts = new ArrayList<>();
        for (String packet : listed()) {
            starts.add(fresh.size());
            fresh.addAll(Check.head(headOf(packet)));
        }
        if (fresh.size() > 6000) {
            return -1;
        }
        bytes = fresh;
        begins = starts;
        return bytes.size();
    }

    int feed(int n, long more) {
        if (n < 1 || n > 8) {
            throw new IllegalArgumentException();
        }
        if (bytes.size() + n > 6000) {
            return -1;
        }
        long rest = more;
        for (int i = 0; i < n; i++) {
            bytes.add((int) Math.floorMod(rest, 256L));
            rest = Math.floorDiv(rest, 256L);
        }
        return bytes.size();
    }

    int wipe() {
        int were = bytes.size();
        bytes.clear();
        return were;
    }

    int byteAt(int i) {
        return i < 0 || i >= bytes.size() ? -1 : bytes.get(i);
    }

    private int next() {
        if (bits.isEmpty()) {
            bits = byteAsBits();
        }
        int bit = bits.charAt(0) - '0';
        bits = bits.substring(1);
        return bit;
    }

    private String byteAsBits() {
        boolean behind255 = inHead && bytes.get(at - 1) == 255;
        if (at >= bytes.size()) {
            throw new Fault(1);
        }
        String text = binary(bytes.get(at), 8);
        if (behind255 && text.charAt(0) == '1') {
            throw new Fault(2);
        }
        at++;
        inHead = true;
        return behind255 ? text.substring(1) : text;
    }

    private int number(int width) {
        int value = 0;
        for (int i = 0; i < width; i++) {
            value = value * 2 + next();
        }
        return value;
    }

    int read() {
        begin();
        for (Block block : allBlocks()) {
            block.forgetRead();
        }
        at = 0;
        int k = 0;
        List<String> all = listed();
        try {
            for (; k < all.size(); k++) {
                bits = "";
                inHead = false;
                readHead(all.get(k));
                if (bytes.get(at - 1) == 255) {
                    byteAsBits();
                }
            }
        } catch (Fault f) {
            for (Block block : allBlocks()) {
                block.forgetRead();
            }
            fault = f.which;
            reach = 0;
            return -1 - k;
        }
        fault = 0;
        reach = at;
        return all.size();
    }

    private void readHead(String packet) {
        if (next() == 0) {
            return;
        }
        Grid grid = gridOf(packet);
        for (Band band : grid.precincts.get(packet.charAt(3) - '0')) {
            for (int i = 0; i < band.blocks.size(); i++) {
                readBlock(grid, band, i, packet.charAt(0) - '0');
            }
        }
    }

    private void readBlock(Grid grid, Band band, int i, int layer) {
        Block block = band.blocks.get(i);
        if (block.begun) {
            if (next() == 0) {
                return;
            }
        } else {
            if (readTree(grid, band, "first", i, layer + 1) > layer) {
                return;
            }
            block.begun = true;
            block.readZeros = readTree(grid, band, "zeros", i, 1000);
        }
        int passes = readPasses();
        block.readPasses[layer] = passes;
        grown(block, passes);
        while (next() == 1) {
            block.growth++;
            grown(block, passes);
        }
        block.readBytes[layer] = number(block.growth + log(passes));
    }

    private static void grown(Block block, int passes) {
        if (block.growth + log(passes) > 24) {
            throw new Fault(3);
        }
    }

    private int readPasses() {
        if (next() == 0) {
            return 1;
        }
        if (next() == 0) {
            return 2;
        }
        int two = number(2);
        if (two != 3) {
            return 3 + two;
        }
        int five = number(5);
        return five != 31 ? 6 + five : 37 + number(7);
    }

    private int readTree(Grid grid, Band band, String kind, int index, int end) {
        int low = 0;
        for (int up = top(grid); up >= 0; up--) {
            String node = kind + " " + up + " " + (index % grid.width >> up) + " "
                    + (index / grid.width >> up);
            low = Math.max(low, band.toldOf.getOrDefault(node, 0));
            while (low < end && !band.done.contains(node)) {
                if (kind.equals("zeros") && low == 31) {
                    throw new Fault(3);
                }
                if (next() == 1) {
                    band.done.add(node);
                } else {
                    low++;
                }
            }
            band.toldOf.put(node, low);
        }
        return low;
    }

    int got(int layer, int what) {
        if (layer < 0 || layer >= layers || what < 0 || what > 3) {
            throw new IndexOutOfBoundsException();
        }
        if (what == 0) {
            return chosen.readPasses[layer];
        }
        if (what == 1) {
            return chosen.readBytes[layer];
        }
        if (what == 2) {
            return chosen.readZeros;
        }
        for (int l = 0; l < layers; l++) {
            if (chosen.readPasses[l] > 0) {
                return l;
            }
        }
        return -1;
    }

    int told(int what) {
        int[] all = {bytes.size(), allBlocks().size(), parts.size(), components.size(), fault, reach};
        if (what < 0 || what > 5) {
            throw new IndexOutOfBoundsException();
        }
        return all[what];
    }
}
