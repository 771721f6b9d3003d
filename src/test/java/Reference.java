import java.util.ArrayList;
import java.util.HashSet;
import java.util.List;
import java.util.Set;

/**
 * The document once more, written as naively as can be and in another way than the program: wires
 * are looked up by name in lists, ways are found from scratch, rings by closures.
 */
final class Reference {
    private static final int NONE = -1;
    private static final int RING = -2;
    private static final int UNROUTED = -3;
    private static final long FAR = Long.MAX_VALUE / 4;

    private static final class Tile {
        long bits;
        boolean value;

        boolean table(int row) {
            return (bits >> row & 1) == 1;
        }

        boolean register() {
            return (bits >> 8 & 1) == 1;
        }

        boolean first() {
            return (bits >> 9 & 1) == 1;
        }

        int pin(int p) {
            return (int) (bits >> 10 + 4 * p & 15);
        }

        int channel(int c) {
            return (int) (bits >> 22 + 3 * c & 7);
        }
    }

    private static final class Cell {
        int table;
        boolean register;
        boolean first;
        boolean value;
        int[] source = {NONE, NONE, NONE};
        int fixed = NONE;
        int tile = NONE;
    }

    private final List<Tile> tiles = new ArrayList<>();
    private final List<Cell> cells = new ArrayList<>();
    private final int[] outputs = {NONE, NONE, NONE, NONE};
    private int cost;

    Reference() {
        for (int t = 0; t < 16; t++) {
            tiles.add(new Tile());
        }
    }

    // ---- the circuit

    int cell(int table, boolean register, boolean first) {
        if (cells.size() == 10) {
            return NONE;
        }
        Cell made = new Cell();
        made.table = table & 0xff;
        made.register = register;
        made.first = first;
        made.value = register && first;
        cells.add(made);
        return cells.size() - 1;
    }

    private boolean isSource(int source) {
        return source == -1 || source >= 10 && source <= 13
                || source >= 0 && source < cells.size();
    }

    boolean connect(int cell, int pin, int source) {
        if (cell < 0 || cell >= cells.size() || pin < 0 || pin > 2 || !isSource(source)) {
            return false;
        }
        cells.get(cell).source[pin] = source;
        return true;
    }

    boolean output(int o, int source) {
        if (o < 0 || o > 3 || !isSource(source)) {
            return false;
        }
        outputs[o] = source;
        return true;
    }

    boolean fix(int cell, int tile) {
        if (cell < 0 || cell >= cells.size() || tile < -1 || tile > 15) {
            return false;
        }
        for (Cell other : cells) {
            if (tile >= 0 && other != cells.get(cell) && other.fixed == tile) {
                return false;
            }
        }
        cells.get(cell).fixed = tile;
        return true;
    }

    private boolean hasRing() {
        int n = cells.size();
        boolean[][] reaches = new boolean[n][n];
        for (int c = 0; c < n; c++) {
            for (int source : cells.get(c).source) {
                if (source >= 0 && source < 10 && !cells.get(c).register
                        && !cells.get(source).register) {
                    reaches[source][c] = true;
                }
            }
        }
        return close(reaches);
    }

    private static boolean close(boolean[][] reaches) {
        int n = reaches.length;
        for (int via = 0; via < n; via++) {
            for (int a = 0; a < n; a++) {
                for (int b = 0; b < n; b++) {
                    reaches[a][b] |= reaches[a][via] && reaches[via][b];
                }
            }
        }
        boolean ring = false;
        for (int a = 0; a < n; a++) {
            ring |= reaches[a][a];
        }
        return ring;
    }

    private boolean value(int source, int inputs) {
        if (source == NONE) {
            return false;
        }
        if (source >= 10) {
            return (inputs >>> source - 10 & 1) == 1;
        }
        Cell cell = cells.get(source);
        return cell.register ? cell.value : given(cell, inputs);
    }

    private boolean given(Cell cell, int inputs) {
        int row = 0;
        for (int p = 0; p < 3; p++) {
            row += value(cell.source[p], inputs) ? 1 << p : 0;
        }
        return (cell.table >> row & 1) == 1;
    }

    int run(int inputs) {
        if (hasRing()) {
            return RING;
        }
        int answer = 0;
        for (int o = 0; o < 4; o++) {
            answer += value(outputs[o], inputs) ? 1 << o : 0;
        }
        boolean[] next = new boolean[cells.size()];
        for (int c = 0; c < next.length; c++) {
            next[c] = given(cells.get(c), inputs);
        }
        for (int c = 0; c < next.length; c++) {
            cells.get(c).value = cells.get(c).register && next[c];
        }
        return answer;
    }

    // ---- the wires: names of what a channel or pin can be switched to, by setting

    private static int neighbour(int t, int d) {
        switch (d) {
            case 0: return t >= 4 ? t - 4 : NONE;
            case 1: return t % 4 < 3 ? t + 1 : NONE;
            case 2: return t < 12 ? t + 4 : NONE;
            default: return t % 4 > 0 ? t - 1 : NONE;
        }
    }

    private static int in(int t, int d, int k) {
        int n = neighbour(t, d);
        if (n != NONE) {
            return 9 * n + 1 + 2 * ((d + 2) % 4) + k;
        }
        return d == 3 && k == 0 ? 144 + t / 4 : NONE;
    }

    private static int[] choices(int wire) {
        if (wire >= 144 || wire % 9 == 0) {
            return new int[0];
        }
        int t = wire / 9;
        int d = (wire % 9 - 1) / 2;
        int k = (wire % 9 - 1) % 2;
        return new int[] {NONE, 9 * t, in(t, (d + 1) % 4, k), in(t, (d + 2) % 4, k),
            in(t, (d + 3) % 4, k)};
    }

    private static int[] pinChoices(int t) {
        int[] answer = new int[10];
        answer[0] = NONE;
        answer[1] = 9 * t;
        for (int s = 2; s < 10; s++) {
            answer[s] = in(t, (s - 2) / 2, (s - 2) % 2);
        }
        return answer;
    }

    // ---- building

    private static final class Net {
        int source;
        List<int[]> sinks = new ArrayList<>();
        Set<Integer> tree = new HashSet<>();
    }

    private List<Net> nets() {
        List<Net> nets = new ArrayList<>();
        for (int source = 0; source < 14; source++) {
            Net net = new Net();
            net.source = source;
            for (int c = 0; c < cells.size(); c++) {
                for (int p = 0; p < 3; p++) {
                    if (cells.get(c).source[p] == source) {
                        net.sinks.add(new int[] {c, p});
                    }
                }
            }
            for (int o = 0; o < 4; o++) {
                if (outputs[o] == source) {
                    net.sinks.add(new int[] {NONE, o});
                }
            }
            if (!net.sinks.isEmpty()) {
                nets.add(net);
            }
        }
        return nets;
    }

    private static int costOf(List<Net> nets, int[] on) {
        int[] where = new int[10];
        for (int t = 0; t < 16; t++) {
            if (on[t] != NONE) {
                where[on[t]] = t;
            }
        }
        int sum = 0;
        for (Net net : nets) {
            boolean[] rows = new boolean[4];
            boolean[] columns = new boolean[4];
            int source = net.source < 10 ? where[net.source] : 4 * (net.source - 10);
            rows[source / 4] = true;
            columns[source % 4] = true;
            for (int[] sink : net.sinks) {
                rows[sink[0] == NONE ? sink[1] : where[sink[0]] / 4] = true;
                columns[sink[0] == NONE ? 3 : where[sink[0]] % 4] = true;
            }
            sum += extent(rows) + extent(columns);
        }
        return sum;
    }

    private static int extent(boolean[] taken) {
        int first = 0;
        int last = 3;
        while (!taken[first]) {
            first++;
        }
        while (!taken[last]) {
            last--;
        }
        return last - first;
    }

    private int[] place(List<Net> nets) {
        int[] on = new int[16];
        java.util.Arrays.fill(on, NONE);
        for (int c = 0; c < cells.size(); c++) {
            if (cells.get(c).fixed != NONE) {
                on[cells.get(c).fixed] = c;
            }
        }
        for (int c = 0; c < cells.size(); c++) {
            if (cells.get(c).fixed == NONE) {
                int t = 0;
                while (on[t] != NONE) {
                    t++;
                }
                on[t] = c;
            }
        }
        for (int pass = 0; pass < 20; pass++) {
            boolean exchanged = false;
            for (int a = 0; a < 16; a++) {
                for (int b = a + 1; b < 16; b++) {
                    if (fixedOn(on, a) || fixedOn(on, b)) {
                        continue;
                    }
                    int[] other = on.clone();
                    other[a] = on[b];
                    other[b] = on[a];
                    if (costOf(nets, other) < costOf(nets, on)) {
                        on = other;
                        exchanged = true;
                    }
                }
            }
            if (!exchanged) {
                break;
            }
        }
        return on;
    }

    private boolean fixedOn(int[] on, int t) {
        return on[t] != NONE && cells.get(on[t]).fixed != NONE;
    }

    int build() {
        if (cells.isEmpty()) {
            return NONE;
        }
        if (hasRing()) {
            return RING;
        }
        List<Net> nets = nets();
        int[] on = place(nets);
        long[] made = new long[16];
        int rounds = route(nets, on, made);
        if (rounds < 0) {
            return rounds;
        }
        cost = costOf(nets, on);
        for (int t = 0; t < 16; t++) {
            if (on[t] != NONE) {
                Cell cell = cells.get(on[t]);
                cell.tile = t;
                made[t] += cell.table + (cell.register ? 256 : 0) + (cell.first ? 512 : 0);
            }
            set(t, made[t]);
        }
        return rounds;
    }

    private int route(List<Net> nets, int[] on, long[] made) {
        int[] where = new int[10];
        for (int t = 0; t < 16; t++) {
            if (on[t] != NONE) {
                where[on[t]] = t;
            }
        }
        int[] history = new int[148];
        for (int round = 1; round <= 12; round++) {
            int[] used = new int[148];
            java.util.Arrays.fill(made, 0);
            for (Net net : nets) {
                net.tree.clear();
                net.tree.add(net.source < 10 ? 9 * where[net.source] : 134 + net.source);
                for (int[] sink : net.sinks) {
                    if (!join(net, sink, where, used, history, made)) {
                        return UNROUTED;
                    }
                }
                for (int w : net.tree) {
                    used[w]++;
                }
            }
            boolean several = false;
            for (int w = 0; w < 148; w++) {
                if (used[w] > 1) {
                    several = true;
                    history[w] += used[w] - 1;
                }
            }
            if (!several) {
                return round;
            }
        }
        return UNROUTED;
    }

    private static boolean join(Net net, int[] sink, int[] where, int[] used, int[] history,
            long[] made) {
        long[] d = distances(net, used, history);
        int wire;
        if (sink[0] == NONE) {
            wire = 9 * (4 * sink[1] + 3) + 3;
        } else {
            int t = where[sink[0]];
            int[] choices = pinChoices(t);
            int best = NONE;
            for (int w = 147; w >= 0; w--) {
                for (int s = 1; s < 10; s++) {
                    if (choices[s] == w && (best == NONE || d[w] <= d[choices[best]])) {
                        best = s;
                    }
                }
            }
            wire = choices[best];
            made[t] += (long) best << 10 + 4 * sink[1];
        }
        if (d[wire] >= FAR) {
            return false;
        }
        List<Integer> way = new ArrayList<>();
        while (!net.tree.contains(wire)) {
            way.add(wire);
            int[] choices = choices(wire);
            int best = NONE;
            for (int s = 1; s < 5; s++) {
                int p = choices[s];
                if (p != NONE && d[p] + 1 + 3 * used[wire] + history[wire] == d[wire]
                        && (best == NONE || p < choices[best])) {
                    best = s;
                }
            }
            int place = wire % 9 - 1;
            made[wire / 9] &= ~(7L << 22 + 3 * place);
            made[wire / 9] |= (long) best << 22 + 3 * place;
            wire = choices[best];
        }
        net.tree.addAll(way);
        return true;
    }

    /** Dijkstra's way: the nearest wire that is not done is done next. */
    private static long[] distances(Net net, int[] used, int[] history) {
        long[] d = new long[148];
        boolean[] done = new boolean[148];
        for (int w = 0; w < 148; w++) {
            d[w] = net.tree.contains(w) ? 0 : FAR;
        }
        for (int step = 0; step < 148; step++) {
            int nearest = NONE;
            for (int w = 0; w < 148; w++) {
                if (!done[w] && (nearest == NONE || d[w] < d[nearest])) {
                    nearest = w;
                }
            }
            done[nearest] = true;
            for (int w = 0; w < 144; w++) {
                for (int p : choices(w)) {
                    if (p == nearest) {
                        d[w] = Math.min(d[w], d[p] + 1 + 3 * used[w] + history[w]);
                    }
                }
            }
        }
        return d;
    }

    int tileOf(int cell) {
        return cell < 0 || cell >= cells.size() ? NONE : cells.get(cell).tile;
    }

    int cost() {
        return cost;
    }

    // ---- the array

    private void set(int t, long bits) {
        Tile tile = tiles.get(t);
        boolean before = tile.register();
        tile.bits = bits;
        if (tile.register() != before) {
            tile.value = false;
        }
    }

    long bits(int tile) {
        return tile < 0 || tile > 15 ? 0 : tiles.get(tile).bits;
    }

    boolean load(int tile, long bits) {
        if (tile < 0 || tile > 15 || bits < 0 || bits > (1L << 46) - 1) {
            return false;
        }
        Tile trial = new Tile();
        trial.bits = bits;
        for (int p = 0; p < 3; p++) {
            if (trial.pin(p) > 9) {
                return false;
            }
        }
        for (int c = 0; c < 8; c++) {
            if (trial.channel(c) > 4) {
                return false;
            }
        }
        set(tile, bits);
        return true;
    }

    int checkSum() {
        int sum = 0xffff;
        for (Tile tile : tiles) {
            for (int b = 0; b < 48; b++) {
                boolean x = sum >= 0x8000 != ((tile.bits >> b & 1) == 1);
                sum = sum * 2 % 0x10000;
                if (x) {
                    sum ^= 0x1021;
                }
            }
        }
        return sum;
    }

    /** The wires on the way back from a wire, the wire itself first; null if it rings. */
    private List<Integer> back(int wire) {
        List<Integer> way = new ArrayList<>();
        int w = wire;
        while (w != NONE) {
            if (way.contains(w)) {
                return null;
            }
            way.add(w);
            w = w >= 144 || w % 9 == 0 ? NONE : choices(w)[tiles.get(w / 9).channel(w % 9 - 1)];
        }
        return way;
    }

    private List<Integer> wayToPin(int t, int p) {
        return back(pinChoices(t)[tiles.get(t).pin(p)]);
    }

    private List<Integer> wayToOutput(int o) {
        return back(9 * (4 * o + 3) + 3);
    }

    private static int gets(List<Integer> way) {
        if (way == null) {
            return RING;
        }
        if (way.isEmpty()) {
            return NONE;
        }
        int last = way.get(way.size() - 1);
        if (last >= 144) {
            return 16 + last - 144;
        }
        return last % 9 == 0 ? last / 9 : NONE;
    }

    int pin(int tile, int pin) {
        return tile < 0 || tile > 15 || pin < 0 || pin > 2 ? NONE : gets(wayToPin(tile, pin));
    }

    int outputOf(int o) {
        return o < 0 || o > 3 ? NONE : gets(wayToOutput(o));
    }

    int channels(int tile, int pin) {
        return pin(tile, pin) < 0 ? 0 : wayToPin(tile, pin).size() - 1;
    }

    private double outletTime(int t) {
        return tiles.get(t).register() ? 0.5 : 0.625 + Math.max(0, latestPin(t));
    }

    private double latestPin(int t) {
        double latest = -1;
        for (int p = 0; p < 3; p++) {
            int from = pin(t, p);
            if (from >= 0) {
                double at = from < 16 ? outletTime(from) : 0;
                latest = Math.max(latest, at + 0.375 * channels(t, p));
            }
        }
        return latest;
    }

    double longest() {
        boolean[][] feeds = new boolean[16][16];
        for (int t = 0; t < 16; t++) {
            for (int p = 0; p < 3; p++) {
                int from = pin(t, p);
                if (from >= 0 && from < 16 && !tiles.get(t).register()
                        && !tiles.get(from).register()) {
                    feeds[from][t] = true;
                }
            }
        }
        if (close(feeds)) {
            return -1;
        }
        double longest = 0;
        for (int t = 0; t < 16; t++) {
            if (tiles.get(t).register() && latestPin(t) >= 0) {
                longest = Math.max(longest, latestPin(t) + 0.625 + 0.25);
            }
        }
        for (int o = 0; o < 4; o++) {
            int from = outputOf(o);
            if (from >= 0) {
                double at = from < 16 ? outletTime(from) : 0;
                longest = Math.max(longest, at + 0.375 * (wayToOutput(o).size() - 1));
            }
        }
        return longest;
    }

    double slack(double period) {
        double longest = longest();
        return period > 0 && longest != -1 ? period - longest : -1;
    }

    void reset() {
        for (Tile tile : tiles) {
            tile.value = tile.register() && tile.first();
        }
        for (Cell cell : cells) {
            cell.value = cell.register && cell.first;
        }
    }

    private boolean given(int from, int inputs) {
        if (from < 0) {
            return false;
        }
        return from < 16 ? tiles.get(from).value : (inputs >>> from - 16 & 1) == 1;
    }

    private boolean table(int t, int[][] pins, int inputs) {
        int row = 0;
        for (int p = 0; p < 3; p++) {
            row += given(pins[t][p], inputs) ? 1 << p : 0;
        }
        return tiles.get(t).table(row);
    }

    int clock(int inputs) {
        int[][] pins = new int[16][3];
        for (int t = 0; t < 16; t++) {
            for (int p = 0; p < 3; p++) {
                pins[t][p] = pin(t, p);
            }
        }
        for (int time = 0; time < 16; time++) {
            for (int t = 0; t < 16; t++) {
                if (!tiles.get(t).register()) {
                    tiles.get(t).value = table(t, pins, inputs);
                }
            }
        }
        int answer = 0;
        for (int o = 0; o < 4; o++) {
            answer += given(outputOf(o), inputs) ? 1 << o : 0;
        }
        boolean[] next = new boolean[16];
        for (int t = 0; t < 16; t++) {
            next[t] = table(t, pins, inputs);
        }
        for (int t = 0; t < 16; t++) {
            if (tiles.get(t).register()) {
                tiles.get(t).value = next[t];
            }
        }
        return answer;
    }
}
