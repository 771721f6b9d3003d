import java.util.Arrays;

/**
 * A small array of logic tiles with wires and switches between them, and what brings a circuit
 * onto it: placing, routing, and making the bits that configure the tiles; and the way back: what
 * the bits connect, how the array runs, how long its longest way is.
 */
public final class TileArray {
    public static final int NONE = -1;
    public static final int RING = -2;
    public static final int UNROUTED = -3;

    private static final int SIDE = 4;
    private static final int TILES = SIDE * SIDE;
    private static final int PINS = 3;
    private static final int DIRECTIONS = 4;
    private static final int EAST = 1;
    private static final int WEST = 3;
    private static final int TRACKS = 2;
    private static final int INPUTS = 4;
    private static final int OUTPUTS = 4;
    private static final int CELLS = 10;

    // A source is a cell or, behind the cells, an input.
    private static final int SOURCES = CELLS + INPUTS;
    // A sink is a pin of a cell (PINS * cell + pin) or, behind those, an output: their numbers
    // ascend in the order in which a net has its sinks.
    private static final int CELL_PINS = CELLS * PINS;
    private static final int SINKS = CELL_PINS + OUTPUTS;

    private static final int TILE_CHANNELS = DIRECTIONS * TRACKS;
    private static final int TILE_WIRES = 1 + TILE_CHANNELS;
    private static final int FIRST_INPUT_WIRE = TILES * TILE_WIRES;
    private static final int WIRES = FIRST_INPUT_WIRE + INPUTS;
    private static final int ALL_CHANNELS = TILES * TILE_CHANNELS;

    // A way leads to a pin of a tile (PINS * tile + pin) or, behind those, to an output.
    private static final int TILE_PINS = TILES * PINS;
    private static final int WAYS = TILE_PINS + OUTPUTS;

    private static final int FROM_OUTLET = 1;
    private static final int FROM_AROUND = 2;
    private static final int PIN_SETTINGS = FROM_AROUND + TILE_CHANNELS;
    private static final int CHANNEL_SETTINGS = FROM_AROUND + DIRECTIONS - 1;

    private static final int TABLE_MASK = 255;
    private static final int REGISTER_AT = 8;
    private static final int FIRST_AT = 9;
    private static final int PINS_AT = 10;
    private static final int PIN_WIDTH = 4;
    private static final int CHANNELS_AT = PINS_AT + PINS * PIN_WIDTH;
    private static final int CHANNEL_WIDTH = 3;
    private static final int TILE_BITS = CHANNELS_AT + TILE_CHANNELS * CHANNEL_WIDTH;

    private final Circuit circuit;
    private final Nets nets;
    private final Placing placing;
    private final Routing routing;
    private final Tiles tiles;
    private final Timing timing;
    private final int[] builtOn;
    private int builtSpans;

    /** No cells, all bits 0, nothing built, all values 0. */
    public TileArray() {
        Fabric fabric = new Fabric();
        circuit = new Circuit();
        nets = new Nets();
        placing = new Placing(circuit, nets);
        routing = new Routing(fabric, nets, placing);
        tiles = new Tiles(fabric);
        timing = new Timing(tiles);
        builtOn = new int[CELLS];
        Arrays.fill(builtOn, NONE);
        builtSpans = 0;
    }

    /** Makes a cell and answers its number; NONE if there are ten. */
    public int cell(int table, boolean register, boolean first) {
        return circuit.addCell(table & TABLE_MASK, register, first);
    }

    /** Gives a cell's pin a source; false if there is no such cell, pin or source. */
    public boolean connect(int cell, int pin, int source) {
        if (!circuit.hasCell(cell) || pin < 0 || pin >= PINS) {
            return false;
        }
        return circuit.setSource(cell * PINS + pin, source);
    }

    /** Gives an output a source; false if there is no such output or source. */
    public boolean output(int o, int source) {
        if (o < 0 || o >= OUTPUTS) {
            return false;
        }
        return circuit.setSource(CELL_PINS + o, source);
    }

    /** Fixes a cell to a tile, or to none with -1; false if that can't be. */
    public boolean fix(int cell, int tile) {
        return circuit.setFixed(cell, tile);
    }

    /** Places and routes the circuit; answers the rounds, or NONE, RING or UNROUTED. */
    public int build() {
        if (circuit.size() == 0) {
            return NONE;
        }
        if (circuit.hasRing()) {
            return RING;
        }
        nets.gather(circuit);
        int spans = placing.place();
        int rounds = routing.route();
        if (rounds > 0) {
            keepBuilding(spans);
        }
        return rounds;
    }

    /** The tile of a cell in the latest building; NONE if it has none there. */
    public int tileOf(int cell) {
        return cell < 0 || cell >= CELLS ? NONE : builtOn[cell];
    }

    /** The cost of the placing in the latest building. */
    public int cost() {
        return builtSpans;
    }

    /** The bits of a tile; 0 if there is no such tile. */
    public long bits(int tile) {
        return tiles.bitsOf(tile);
    }

    /** Sets the bits of a tile; false if there is no such tile or no such bits. */
    public boolean load(int tile, long bits) {
        if (tile < 0 || tile >= TILES || !Tiles.areLegal(bits)) {
            return false;
        }
        tiles.setBits(tile, bits);
        tiles.retrace();
        return true;
    }

    /** A check sum over the bits of all tiles. */
    public int checkSum() {
        return tiles.sumUp();
    }

    /** What a pin of a tile gets: an outlet, 16 + an input, NONE or RING. */
    public int pin(int tile, int pin) {
        return tiles.originOf(wayTo(tile, pin));
    }

    /** What an output gets, likewise. */
    public int outputOf(int o) {
        return o < 0 || o >= OUTPUTS ? NONE : tiles.originOf(TILE_PINS + o);
    }

    /** How many channels are on the way to a pin that gets something; 0 otherwise. */
    public int channels(int tile, int pin) {
        return tiles.lengthOf(wayTo(tile, pin));
    }

    /** How long the longest way is; 0 if there is none, -1 if tiles feed each other in a ring. */
    public double longest() {
        return timing.longestWay();
    }

    /** By how much a period is longer than the longest way; -1 if that can't be told. */
    public double slack(double period) {
        // Asked this way round, a period that is no number is refused, too.
        if (!(period > 0)) {
            return -1;
        }
        double longest = timing.longestWay();
        return longest < 0 ? -1 : period - longest;
    }

    /** Puts all registers back to what they hold at first, all other outlets to 0. */
    public void reset() {
        tiles.restart();
        circuit.restart();
    }

    /** One clock of the array: answers its outputs. */
    public int clock(int inputs) {
        return tiles.step(inputs);
    }

    /** One clock of the circuit: answers its outputs, or RING. */
    public int run(int inputs) {
        return circuit.hasRing() ? RING : circuit.step(inputs);
    }

    private static int wayTo(int tile, int pin) {
        boolean there = tile >= 0 && tile < TILES && pin >= 0 && pin < PINS;
        return there ? tile * PINS + pin : NONE;
    }

    private void keepBuilding(int spans) {
        for (int cell = 0; cell < CELLS; cell++) {
            builtOn[cell] = circuit.hasCell(cell) ? placing.siteOf(cell) : NONE;
        }
        builtSpans = spans;
        for (int tile = 0; tile < TILES; tile++) {
            long settings = circuit.settingsOf(placing.cellAt(tile));
            tiles.setBits(tile, settings | routing.settingsOf(tile));
        }
        tiles.retrace();
    }

    /** The wires that every switch can lead from, the same in every array. */
    private static final class Fabric {
        private static final int[] ROW_STEP = {-1, 0, 1, 0};
        private static final int[] COLUMN_STEP = {0, 1, 0, -1};

        private final int[] beforeChannel;
        private final int[] beforePin;
        /** The channels that can be switched to a wire: to an outlet all those of its tile. */
        private final int[] after;
        private final int[] afterCount;

        Fabric() {
            beforeChannel = new int[FIRST_INPUT_WIRE * CHANNEL_SETTINGS];
            beforePin = new int[TILES * PIN_SETTINGS];
            after = new int[WIRES * TILE_CHANNELS];
            afterCount = new int[WIRES];
            Arrays.fill(beforeChannel, NONE);
            Arrays.fill(beforePin, NONE);
            for (int tile = 0; tile < TILES; tile++) {
                laySwitches(tile);
            }
        }

        static boolean isChannel(int wire) {
            return wire >= 0 && wire < FIRST_INPUT_WIRE && wire % TILE_WIRES != 0;
        }

        static int outletOf(int tile) {
            return tile * TILE_WIRES;
        }

        static int channelOf(int tile, int direction, int track) {
            return tile * TILE_WIRES + 1 + direction * TRACKS + track;
        }

        static int outputWire(int o) {
            return channelOf(o * SIDE + SIDE - 1, EAST, 0);
        }

        /** The wire from which a channel with this setting comes; NONE if from nothing. */
        int beforeChannel(int wire, int setting) {
            boolean there = wire >= 0 && wire < FIRST_INPUT_WIRE;
            boolean possible = setting >= 0 && setting < CHANNEL_SETTINGS;
            return there && possible ? beforeChannel[wire * CHANNEL_SETTINGS + setting] : NONE;
        }

        /** The wire from which a pin of the tile with this setting comes; NONE if from nothing. */
        int beforePin(int tile, int setting) {
            boolean there = tile >= 0 && tile < TILES && setting >= 0 && setting < PIN_SETTINGS;
            return there ? beforePin[tile * PIN_SETTINGS + setting] : NONE;
        }

        /** The channel with this number, 0 the first, that can be switched to a wire; or NONE. */
        int channelAfter(int wire, int number) {
            boolean there = wire >= 0 && wire < WIRES && number >= 0;
            return there && number < afterCount[wire] ? after[wire * TILE_CHANNELS + number] : NONE;
        }

        private void laySwitches(int tile) {
            beforePin[tile * PIN_SETTINGS + FROM_OUTLET] = outletOf(tile);
            for (int direction = 0; direction < DIRECTIONS; direction++) {
                for (int track = 0; track < TRACKS; track++) {
                    int around = FROM_AROUND + direction * TRACKS + track;
                    beforePin[tile * PIN_SETTINGS + around] = wireInto(tile, direction, track);
                    layChannel(tile, direction, track);
                }
            }
        }

        private void layChannel(int tile, int direction, int track) {
            int channel = channelOf(tile, direction, track);
            laySwitch(channel, FROM_OUTLET, outletOf(tile));
            for (int turn = 1; turn < DIRECTIONS; turn++) {
                int from = (direction + turn) % DIRECTIONS;
                laySwitch(channel, FROM_OUTLET + turn, wireInto(tile, from, track));
            }
        }

        private void laySwitch(int channel, int setting, int before) {
            beforeChannel[channel * CHANNEL_SETTINGS + setting] = before;
            if (before != NONE && afterCount[before] < TILE_CHANNELS) {
                after[before * TILE_CHANNELS + afterCount[before]] = channel;
                afterCount[before]++;
            }
        }

        private static int wireInto(int tile, int direction, int track) {
            int row = tile / SIDE + ROW_STEP[direction];
            int column = tile % SIDE + COLUMN_STEP[direction];
            if (row >= 0 && row < SIDE && column >= 0 && column < SIDE) {
                int back = (direction + DIRECTIONS / 2) % DIRECTIONS;
                return channelOf(row * SIDE + column, back, track);
            }
            return direction == WEST && track == 0 ? FIRST_INPUT_WIRE + row : NONE;
        }
    }

    /** The cells, what they are connected to, and what their registers hold. */
    private static final class Circuit {
        private final int[] table;
        private final boolean[] register;
        private final int[] first;
        private final int[] fixedTo;
        private final int[] sourceOfSink;
        /** What a source gives; for a cell with a register this is what that holds. */
        private final int[] value;
        private final int[] next;
        private final int[] order;
        private final boolean[] ordered;
        private int size;
        private int orderSize;

        Circuit() {
            table = new int[CELLS];
            register = new boolean[CELLS];
            first = new int[CELLS];
            fixedTo = new int[CELLS];
            sourceOfSink = new int[SINKS];
            value = new int[SOURCES];
            next = new int[CELLS];
            order = new int[CELLS];
            ordered = new boolean[CELLS];
            Arrays.fill(fixedTo, NONE);
            Arrays.fill(sourceOfSink, NONE);
        }

        int size() {
            return size;
        }

        boolean hasCell(int cell) {
            return cell >= 0 && cell < size && cell < CELLS;
        }

        int addCell(int itsTable, boolean itsRegister, boolean itsFirst) {
            if (size >= CELLS) {
                return NONE;
            }
            int cell = size;
            size++;
            table[cell] = itsTable;
            register[cell] = itsRegister;
            first[cell] = itsFirst ? 1 : 0;
            value[cell] = itsRegister ? first[cell] : 0;
            return cell;
        }

        boolean setSource(int sink, int source) {
            boolean known = source == NONE || hasCell(source) || isInput(source);
            if (!known || sink < 0 || sink >= SINKS) {
                return false;
            }
            sourceOfSink[sink] = source;
            return true;
        }

        int sourceOf(int sink) {
            return sink < 0 || sink >= SINKS ? NONE : sourceOfSink[sink];
        }

        boolean setFixed(int cell, int tile) {
            if (!hasCell(cell) || tile < NONE || tile >= TILES) {
                return false;
            }
            for (int other = 0; other < size; other++) {
                if (tile != NONE && other != cell && fixedTo[other] == tile) {
                    return false;
                }
            }
            fixedTo[cell] = tile;
            return true;
        }

        /** The tile that a cell is fixed to; NONE if it is to none, or there is no such cell. */
        int fixedTile(int cell) {
            return hasCell(cell) ? fixedTo[cell] : NONE;
        }

        /** The bits that a cell brings to its tile; 0 if there is no such cell. */
        long settingsOf(int cell) {
            if (!hasCell(cell)) {
                return 0;
            }
            int registerBit = register[cell] ? 1 : 0;
            return table[cell] | registerBit << REGISTER_AT | first[cell] << FIRST_AT;
        }

        /** Orders the cells without registers, each behind its sources; true if that can't be. */
        boolean hasRing() {
            orderSize = 0;
            int left = 0;
            for (int cell = 0; cell < size; cell++) {
                ordered[cell] = register[cell];
                left += register[cell] ? 0 : 1;
            }
            for (int round = 0; round < CELLS && orderSize < left; round++) {
                for (int cell = 0; cell < size; cell++) {
                    orderIfReady(cell);
                }
            }
            return orderSize < left;
        }

        /** One clock, in the order that hasRing() has found: answers the outputs. */
        int step(int inputs) {
            for (int i = 0; i < INPUTS; i++) {
                value[CELLS + i] = inputs >> i & 1;
            }
            for (int place = 0; place < orderSize; place++) {
                int cell = order[place];
                value[cell] = tableGives(cell);
            }
            int outputs = 0;
            for (int o = 0; o < OUTPUTS; o++) {
                outputs |= valueAt(CELL_PINS + o) << o;
            }
            stepRegisters();
            return outputs;
        }

        void restart() {
            for (int cell = 0; cell < size; cell++) {
                if (register[cell]) {
                    value[cell] = first[cell];
                }
            }
        }

        private static boolean isInput(int source) {
            return source >= CELLS && source < SOURCES;
        }

        private void orderIfReady(int cell) {
            if (ordered[cell] || orderSize >= CELLS) {
                return;
            }
            for (int pin = 0; pin < PINS; pin++) {
                int source = sourceOfSink[cell * PINS + pin];
                if (hasCell(source) && !ordered[source]) {
                    return;
                }
            }
            ordered[cell] = true;
            order[orderSize] = cell;
            orderSize++;
        }

        private void stepRegisters() {
            // All of them are looked up before one changes: they change at once.
            for (int cell = 0; cell < size; cell++) {
                next[cell] = register[cell] ? tableGives(cell) : value[cell];
            }
            System.arraycopy(next, 0, value, 0, size);
        }

        private int tableGives(int cell) {
            int row = 0;
            for (int pin = 0; pin < PINS; pin++) {
                row |= valueAt(cell * PINS + pin) << pin;
            }
            return table[cell] >> row & 1;
        }

        private int valueAt(int sink) {
            int source = sourceOfSink[sink];
            return source < 0 || source >= SOURCES ? 0 : value[source];
        }
    }

    /** The sinks of each source, in their order. */
    private static final class Nets {
        private final int[] start;
        private final int[] sinks;

        Nets() {
            start = new int[SOURCES + 1];
            sinks = new int[SINKS];
        }

        void gather(Circuit circuit) {
            int gathered = 0;
            for (int source = 0; source < SOURCES; source++) {
                start[source] = gathered;
                for (int sink = 0; sink < SINKS && gathered < SINKS; sink++) {
                    if (circuit.sourceOf(sink) == source) {
                        sinks[gathered] = sink;
                        gathered++;
                    }
                }
            }
            start[SOURCES] = gathered;
        }

        int sinksOf(int source) {
            return source < 0 || source >= SOURCES ? 0 : start[source + 1] - start[source];
        }

        /** The sink with this number, 0 the first, among those of the source. */
        int sinkAt(int source, int number) {
            if (source < 0 || source >= SOURCES || number < 0) {
                return NONE;
            }
            int place = start[source] + number;
            return place < start[source + 1] ? sinks[place] : NONE;
        }
    }

    /** Which cell is on which tile, in the building that is being made. */
    private static final class Placing {
        private static final int MOST_PASSES = 20;

        private final Circuit circuit;
        private final Nets nets;
        private final int[] cellOn;
        private final int[] tileUnder;

        Placing(Circuit circuit, Nets nets) {
            this.circuit = circuit;
            this.nets = nets;
            cellOn = new int[TILES];
            tileUnder = new int[CELLS];
        }

        int cellAt(int tile) {
            return tile < 0 || tile >= TILES ? NONE : cellOn[tile];
        }

        /** The tile at which a source is: an input is at the tile that it leads into. */
        int siteOf(int source) {
            if (source < 0 || source >= SOURCES) {
                return NONE;
            }
            return source < CELLS ? tileUnder[source] : (source - CELLS) * SIDE;
        }

        /** The tile at which a sink is: an output is at the tile that it leads out of. */
        int siteOfSink(int sink) {
            if (sink < 0 || sink >= SINKS) {
                return NONE;
            }
            return sink < CELL_PINS ? tileUnder[sink / PINS] : (sink - CELL_PINS + 1) * SIDE - 1;
        }

        /** Places all cells of the circuit and answers what that costs. */
        int place() {
            putFirst();
            int spans = sumOfSpans();
            for (int pass = 0; pass < MOST_PASSES; pass++) {
                int after = goThrough(spans);
                // Each exchange makes the cost less: as before means that there was none.
                if (after == spans) {
                    break;
                }
                spans = after;
            }
            return spans;
        }

        private void putFirst() {
            Arrays.fill(cellOn, NONE);
            for (int cell = 0; cell < circuit.size(); cell++) {
                put(cell, circuit.fixedTile(cell));
            }
            int free = 0;
            for (int cell = 0; cell < circuit.size(); cell++) {
                if (circuit.fixedTile(cell) == NONE) {
                    while (free < TILES && cellOn[free] != NONE) {
                        free++;
                    }
                    put(cell, free);
                }
            }
        }

        private void put(int cell, int tile) {
            if (tile < 0 || tile >= TILES) {
                return;
            }
            cellOn[tile] = cell;
            if (cell >= 0 && cell < CELLS) {
                tileUnder[cell] = tile;
            }
        }

        private int goThrough(int spansBefore) {
            int spans = spansBefore;
            for (int a = 0; a < TILES; a++) {
                for (int b = a + 1; b < TILES && !isFixed(a); b++) {
                    if (!isFixed(b)) {
                        spans = exchangeIfBetter(a, b, spans);
                    }
                }
            }
            return spans;
        }

        private boolean isFixed(int tile) {
            return circuit.fixedTile(cellOn[tile]) != NONE;
        }

        private int exchangeIfBetter(int a, int b, int spansBefore) {
            int onA = cellOn[a];
            int onB = cellOn[b];
            if (onA == onB) {
                return spansBefore;
            }
            put(onB, a);
            put(onA, b);
            int spans = sumOfSpans();
            if (spans < spansBefore) {
                return spans;
            }
            put(onA, a);
            put(onB, b);
            return spansBefore;
        }

        private int sumOfSpans() {
            int sum = 0;
            for (int source = 0; source < SOURCES; source++) {
                if (nets.sinksOf(source) > 0) {
                    sum += spanOf(source);
                }
            }
            return sum;
        }

        private int spanOf(int source) {
            int site = siteOf(source);
            int north = site / SIDE;
            int south = north;
            int west = site % SIDE;
            int east = west;
            for (int number = 0; number < nets.sinksOf(source); number++) {
                site = siteOfSink(nets.sinkAt(source, number));
                north = Math.min(north, site / SIDE);
                south = Math.max(south, site / SIDE);
                west = Math.min(west, site % SIDE);
                east = Math.max(east, site % SIDE);
            }
            return east - west + south - north;
        }
    }

    /** Wires that wait, each but once, the first that came the first to go. */
    private static final class WireQueue {
        private final int[] row;
        private final boolean[] waits;
        private int first;
        private int size;

        WireQueue() {
            row = new int[WIRES];
            waits = new boolean[WIRES];
        }

        boolean isEmpty() {
            return size == 0;
        }

        void add(int wire) {
            if (wire < 0 || wire >= WIRES || waits[wire] || size >= WIRES) {
                return;
            }
            waits[wire] = true;
            row[(first + size) % WIRES] = wire;
            size++;
        }

        int take() {
            if (size == 0) {
                return NONE;
            }
            int wire = row[first];
            waits[wire] = false;
            first = (first + 1) % WIRES;
            size--;
            return wire;
        }
    }

    /** The ways of all nets, in the building that is being made. */
    private static final class Routing {
        private static final int MOST_ROUNDS = 12;
        private static final int PRICE_OF_SHARING = 3;
        private static final int FAR = 1 << 20;
        private static final int MOST_STEPS = 1000000;

        private final Fabric fabric;
        private final Nets nets;
        private final Placing placing;
        private final WireQueue queue;
        private final int[] users;
        private final int[] history;
        private final int[] price;
        private final int[] distance;
        private final boolean[] inTree;
        private final int[] channelSetting;
        private final int[] pinSetting;

        Routing(Fabric fabric, Nets nets, Placing placing) {
            this.fabric = fabric;
            this.nets = nets;
            this.placing = placing;
            queue = new WireQueue();
            users = new int[WIRES];
            history = new int[WIRES];
            price = new int[WIRES];
            distance = new int[WIRES];
            inTree = new boolean[WIRES];
            channelSetting = new int[FIRST_INPUT_WIRE];
            pinSetting = new int[TILE_PINS];
        }

        /** Routes all nets and answers the rounds that it took; UNROUTED if it failed. */
        int route() {
            Arrays.fill(history, 0);
            for (int round = 1; round <= MOST_ROUNDS; round++) {
                if (!routeAll()) {
                    return UNROUTED;
                }
                if (!growHistory()) {
                    return round;
                }
            }
            return UNROUTED;
        }

        /** The bits of a tile's switches. */
        long settingsOf(int tile) {
            if (tile < 0 || tile >= TILES) {
                return 0;
            }
            long settings = 0;
            for (int pin = 0; pin < PINS; pin++) {
                long setting = pinSetting[tile * PINS + pin];
                settings |= setting << PINS_AT + pin * PIN_WIDTH;
            }
            for (int channel = 0; channel < TILE_CHANNELS; channel++) {
                long setting = channelSetting[Fabric.outletOf(tile) + 1 + channel];
                settings |= setting << CHANNELS_AT + channel * CHANNEL_WIDTH;
            }
            return settings;
        }

        private boolean routeAll() {
            Arrays.fill(users, 0);
            Arrays.fill(channelSetting, 0);
            Arrays.fill(pinSetting, 0);
            for (int source = 0; source < SOURCES; source++) {
                if (nets.sinksOf(source) > 0 && !routeNet(source)) {
                    return false;
                }
            }
            return true;
        }

        /** Makes wires that several nets use dearer; false if there are none. */
        private boolean growHistory() {
            boolean shared = false;
            for (int wire = 0; wire < WIRES; wire++) {
                if (users[wire] > 1) {
                    history[wire] += users[wire] - 1;
                    shared = true;
                }
            }
            return shared;
        }

        private boolean routeNet(int source) {
            startTree(wireOf(source));
            for (int number = 0; number < nets.sinksOf(source); number++) {
                spread();
                int end = endOfWay(nets.sinkAt(source, number));
                if (end == NONE || distance[end] >= FAR) {
                    return false;
                }
                followBack(end);
            }
            for (int wire = 0; wire < WIRES; wire++) {
                users[wire] += inTree[wire] ? 1 : 0;
            }
            return true;
        }

        private int wireOf(int source) {
            if (source < CELLS) {
                return Fabric.outletOf(placing.siteOf(source));
            }
            return FIRST_INPUT_WIRE + source - CELLS;
        }

        private void startTree(int root) {
            for (int wire = 0; wire < WIRES; wire++) {
                inTree[wire] = wire == root;
                distance[wire] = FAR;
                price[wire] = 1 + PRICE_OF_SHARING * users[wire] + history[wire];
            }
        }

        /** Finds the distance of every wire from the tree. */
        private void spread() {
            // Distances from the smaller tree may stay: a tree that grows only shortens them.
            for (int wire = 0; wire < WIRES; wire++) {
                if (inTree[wire]) {
                    shorten(wire, 0);
                }
            }
            for (int step = 0; step < MOST_STEPS && !queue.isEmpty(); step++) {
                spreadFrom(queue.take());
            }
        }

        private void spreadFrom(int wire) {
            for (int number = 0; number < TILE_CHANNELS; number++) {
                int channel = fabric.channelAfter(wire, number);
                if (channel == NONE) {
                    break;
                }
                shorten(channel, distance[wire] + price[channel]);
            }
        }

        private void shorten(int wire, int shorter) {
            if (shorter < distance[wire]) {
                distance[wire] = shorter;
                queue.add(wire);
            }
        }

        /** The last wire on the way to a sink: its own, or the one that a pin is switched to. */
        private int endOfWay(int sink) {
            if (sink < CELL_PINS) {
                return switchPin(placing.siteOfSink(sink), sink % PINS);
            }
            return Fabric.outputWire(sink - CELL_PINS);
        }

        private int switchPin(int tile, int pin) {
            int nearest = NONE;
            for (int setting = FROM_OUTLET; setting < PIN_SETTINGS; setting++) {
                int wire = fabric.beforePin(tile, setting);
                if (wire != NONE && (nearest == NONE || isNearer(wire, nearest))) {
                    nearest = wire;
                    pinSetting[tile * PINS + pin] = setting;
                }
            }
            return nearest;
        }

        private boolean isNearer(int wire, int other) {
            int difference = distance[wire] - distance[other];
            return difference < 0 || difference == 0 && wire < other;
        }

        private void followBack(int from) {
            int wire = from;
            // Distances stay until the way is whole: what has joined the tree must not look near.
            for (int steps = 0; steps < WIRES && wire != NONE && !inTree[wire]; steps++) {
                inTree[wire] = true;
                int setting = settingBack(wire);
                if (wire < FIRST_INPUT_WIRE) {
                    channelSetting[wire] = setting;
                }
                wire = fabric.beforeChannel(wire, setting);
            }
        }

        private int settingBack(int wire) {
            int lowest = NONE;
            int chosen = 0;
            for (int setting = FROM_OUTLET; setting < CHANNEL_SETTINGS; setting++) {
                int before = fabric.beforeChannel(wire, setting);
                boolean onTheWay = before != NONE
                        && distance[before] + price[wire] == distance[wire];
                if (onTheWay && (lowest == NONE || before < lowest)) {
                    lowest = before;
                    chosen = setting;
                }
            }
            return chosen;
        }
    }

    /** The bits of the tiles, what they connect, and what the outlets give. */
    private static final class Tiles {
        private static final int SWEEPS = 16;
        private static final int SUMMED_BITS = 48;
        private static final int SUM_START = 0xffff;
        private static final int SUM_MASK = 0xffff;
        private static final int SUM_TOP = 15;
        private static final int SUM_TERM = 0x1021;

        private final Fabric fabric;
        private final long[] bits;
        /** What an outlet gives; with a register this is what that holds. */
        private final int[] gives;
        private final int[] next;
        private final int[] origin;
        private final int[] length;

        Tiles(Fabric fabric) {
            this.fabric = fabric;
            bits = new long[TILES];
            gives = new int[TILES];
            next = new int[TILES];
            origin = new int[WAYS];
            length = new int[WAYS];
            // With all bits 0 no way leads anywhere.
            Arrays.fill(origin, NONE);
        }

        static boolean areLegal(long bits) {
            if (bits < 0 || bits >= 1L << TILE_BITS) {
                return false;
            }
            for (int pin = 0; pin < PINS; pin++) {
                if (pinSetting(bits, pin) >= PIN_SETTINGS) {
                    return false;
                }
            }
            for (int channel = 0; channel < TILE_CHANNELS; channel++) {
                if (channelSetting(bits, channel) >= CHANNEL_SETTINGS) {
                    return false;
                }
            }
            return true;
        }

        long bitsOf(int tile) {
            return tile < 0 || tile >= TILES ? 0 : bits[tile];
        }

        boolean hasRegister(int tile) {
            return (bitsOf(tile) >> REGISTER_AT & 1) == 1;
        }

        /** Sets the bits of a tile; retrace() is due once all that change have been set. */
        void setBits(int tile, long itsBits) {
            if (tile < 0 || tile >= TILES) {
                return;
            }
            boolean before = hasRegister(tile);
            bits[tile] = itsBits;
            if (hasRegister(tile) != before) {
                gives[tile] = 0;
            }
        }

        /** Follows all ways anew, back to what they come from. */
        void retrace() {
            for (int way = 0; way < TILE_PINS; way++) {
                int tile = way / PINS;
                int setting = pinSetting(bits[tile], way % PINS);
                trace(way, fabric.beforePin(tile, setting));
            }
            for (int o = 0; o < OUTPUTS; o++) {
                trace(TILE_PINS + o, Fabric.outputWire(o));
            }
        }

        /** What a way comes from: an outlet, 16 + an input, NONE or RING. */
        int originOf(int way) {
            return way < 0 || way >= WAYS ? NONE : origin[way];
        }

        /** The channels on a way that comes from something; 0 on others. */
        int lengthOf(int way) {
            return way < 0 || way >= WAYS ? 0 : length[way];
        }

        int sumUp() {
            int sum = SUM_START;
            for (int tile = 0; tile < TILES; tile++) {
                for (int place = 0; place < SUMMED_BITS; place++) {
                    int bit = (int) (bits[tile] >> place & 1);
                    int carry = sum >> SUM_TOP & 1 ^ bit;
                    sum = sum << 1 & SUM_MASK;
                    sum = carry == 1 ? sum ^ SUM_TERM : sum;
                }
            }
            return sum;
        }

        void restart() {
            for (int tile = 0; tile < TILES; tile++) {
                gives[tile] = hasRegister(tile) ? (int) (bits[tile] >> FIRST_AT & 1) : 0;
            }
        }

        /** One clock: answers the outputs. */
        int step(int inputs) {
            for (int sweep = 0; sweep < SWEEPS; sweep++) {
                for (int tile = 0; tile < TILES; tile++) {
                    gives[tile] = hasRegister(tile) ? gives[tile] : tableGives(tile, inputs);
                }
            }
            int outputs = 0;
            for (int o = 0; o < OUTPUTS; o++) {
                outputs |= valueAt(TILE_PINS + o, inputs) << o;
            }
            stepRegisters(inputs);
            return outputs;
        }

        private static int pinSetting(long bits, int pin) {
            return (int) (bits >> PINS_AT + pin * PIN_WIDTH) & 15;
        }

        private static int channelSetting(long bits, int channel) {
            return (int) (bits >> CHANNELS_AT + channel * CHANNEL_WIDTH) & 7;
        }

        private void trace(int way, int firstWire) {
            int wire = firstWire;
            int passed = 0;
            while (passed < ALL_CHANNELS && Fabric.isChannel(wire)) {
                passed++;
                long itsBits = bitsOf(wire / TILE_WIRES);
                int setting = channelSetting(itsBits, wire % TILE_WIRES - 1);
                wire = fabric.beforeChannel(wire, setting);
            }
            origin[way] = originAt(wire);
            length[way] = origin[way] < 0 ? 0 : passed;
        }

        private static int originAt(int wire) {
            if (wire == NONE) {
                return NONE;
            }
            // Behind as many channels as there are, one more is one that was passed before.
            if (Fabric.isChannel(wire)) {
                return RING;
            }
            return wire < FIRST_INPUT_WIRE ? wire / TILE_WIRES : TILES + wire - FIRST_INPUT_WIRE;
        }

        private void stepRegisters(int inputs) {
            // All of them are looked up before one changes: they change at once.
            for (int tile = 0; tile < TILES; tile++) {
                next[tile] = hasRegister(tile) ? tableGives(tile, inputs) : gives[tile];
            }
            System.arraycopy(next, 0, gives, 0, TILES);
        }

        private int tableGives(int tile, int inputs) {
            int row = 0;
            for (int pin = 0; pin < PINS; pin++) {
                row |= valueAt(tile * PINS + pin, inputs) << pin;
            }
            return (int) (bits[tile] >> row & 1);
        }

        private int valueAt(int way, int inputs) {
            int from = originOf(way);
            if (from < 0) {
                return 0;
            }
            return from < TILES ? gives[from] : inputs >> from - TILES & 1;
        }
    }

    /** When the outlets, pins and outputs of the array are there. */
    private static final class Timing {
        // All times are whole eighths, and counted in these.
        private static final int EIGHTHS = 8;
        private static final int OF_REGISTER = 4;
        private static final int OF_TABLE = 5;
        private static final int OF_CHANNEL = 3;
        private static final int BEFORE_CLOCK = 2;
        private static final int NEVER = -1;

        private final Tiles tiles;
        private final int[] outletAt;
        private final boolean[] known;

        Timing(Tiles tiles) {
            this.tiles = tiles;
            outletAt = new int[TILES];
            known = new boolean[TILES];
        }

        double longestWay() {
            if (!timeOutlets()) {
                return -1;
            }
            int longest = 0;
            for (int tile = 0; tile < TILES; tile++) {
                int pins = latestPin(tile);
                if (tiles.hasRegister(tile) && pins != NEVER) {
                    longest = Math.max(longest, pins + OF_TABLE + BEFORE_CLOCK);
                }
            }
            for (int o = 0; o < OUTPUTS; o++) {
                longest = Math.max(longest, arrival(TILE_PINS + o));
            }
            return (double) longest / EIGHTHS;
        }

        /** Times each outlet behind those that it waits for; false if some wait in a ring. */
        private boolean timeOutlets() {
            int left = 0;
            for (int tile = 0; tile < TILES; tile++) {
                known[tile] = tiles.hasRegister(tile);
                outletAt[tile] = OF_REGISTER;
                left += known[tile] ? 0 : 1;
            }
            for (int round = 0; round < TILES && left > 0; round++) {
                for (int tile = 0; tile < TILES; tile++) {
                    if (!known[tile] && pinsAreKnown(tile)) {
                        outletAt[tile] = OF_TABLE + Math.max(0, latestPin(tile));
                        known[tile] = true;
                        left--;
                    }
                }
            }
            return left == 0;
        }

        private boolean pinsAreKnown(int tile) {
            for (int pin = 0; pin < PINS; pin++) {
                int from = tiles.originOf(tile * PINS + pin);
                if (from >= 0 && from < TILES && !known[from]) {
                    return false;
                }
            }
            return true;
        }

        /** When the last pin of a tile is there; NEVER if none gets something. */
        private int latestPin(int tile) {
            int latest = NEVER;
            for (int pin = 0; pin < PINS; pin++) {
                latest = Math.max(latest, arrival(tile * PINS + pin));
            }
            return latest;
        }

        /** When the end of a way is there; NEVER if it gets nothing. */
        private int arrival(int way) {
            int from = tiles.originOf(way);
            if (from < 0) {
                return NEVER;
            }
            int start = from < TILES ? outletAt[from] : 0;
            return start + OF_CHANNEL * tiles.lengthOf(way);
        }
    }
}
