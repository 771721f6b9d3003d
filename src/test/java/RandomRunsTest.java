/** Runs of calls, drawn by a fixed row of numbers, on the program and on the reference. */
public final class RandomRunsTest {
    private static final int RUNS = 800;
    /** The document promises nothing about an object behind this many calls. */
    private static final int MOST_CALLS = 512;

    private final Due due;
    private final int run;
    private final TileArray array = new TileArray();
    private final Reference reference = new Reference();
    private long drawn;
    private int cells;
    private int calls;

    private RandomRunsTest(Due due, int run) {
        this.due = due;
        this.run = run;
        drawn = 0x9E3779B97F4A7C15L * (run + 1);
    }

    public static void main(String[] args) {
        Due due = new Due("RandomRunsTest");
        for (int run = 0; run < RUNS && due.wrong() < 20; run++) {
            RandomRunsTest test = new RandomRunsTest(due, run);
            if (run % 4 == 3) {
                test.loadAndClock();
            } else {
                test.buildAndRun(run % 4);
            }
            due.is("run " + run + ": is short enough", test.calls <= MOST_CALLS, true);
        }
        due.end();
    }

    private int draw(int below) {
        drawn ^= drawn << 13;
        drawn ^= drawn >>> 7;
        drawn ^= drawn << 17;
        return (int) ((drawn >>> 20) % below);
    }

    private boolean drawFlag() {
        return draw(2) == 1;
    }

    private void buildAndRun(int kind) {
        int count = 1 + draw(11);
        for (int c = 0; c < count; c++) {
            addCell(kind == 2 ? 90 : 40);
        }
        for (int change = 0; change < 5; change++) {
            for (int wire = 0; wire < (change == 0 ? 3 * cells : 3); wire++) {
                connectOne();
            }
            for (int o = 0; o < 4; o++) {
                int source = draw(15) - 1;
                same("output(" + o + ", " + source + ")", array.output(o, source),
                        reference.output(o, source));
            }
            if (kind > 0) {
                int tile = kind == 2 ? new int[] {0, 3, 12, 15}[draw(4)] : draw(18) - 1;
                int cell = draw(10);
                same("fix(" + cell + ", " + tile + ")", array.fix(cell, tile),
                        reference.fix(cell, tile));
            }
            same("build()", array.build(), reference.build());
            compareAll();
            if (drawFlag()) {
                array.reset();
                reference.reset();
                calls++;
            }
            clockSome();
            if (draw(3) == 0) {
                addCell(50);
            }
        }
    }

    private void addCell(int registersOfHundred) {
        int table = draw(1024) - 256;
        boolean register = draw(100) < registersOfHundred;
        boolean first = drawFlag();
        same("cell(" + table + ", ..)", array.cell(table, register, first),
                reference.cell(table, register, first));
        cells = Math.min(10, cells + 1);
    }

    private void connectOne() {
        int cell = draw(10);
        int pin = draw(3);
        // Lower sources are drawn more often, or nearly every circuit would have a ring.
        int source = draw(4) == 0 ? draw(15) - 1 : draw(cell + 1) - 1;
        source = draw(5) == 0 ? 10 + draw(4) : source;
        same("connect(" + cell + ", " + pin + ", " + source + ")",
                array.connect(cell, pin, source), reference.connect(cell, pin, source));
    }

    private void loadAndClock() {
        int dense = 2 + draw(6);
        for (int load = 0; load < 40; load++) {
            int tile = draw(16);
            long bits = draw(1024);
            for (int p = 0; p < 3; p++) {
                bits |= Due.pin(p, draw(8) < dense ? draw(10) : 0);
            }
            for (int c = 0; c < 8; c++) {
                bits |= Due.channel(c, draw(8) < dense ? draw(5) : 0);
            }
            bits ^= draw(12) == 0 ? 1L << draw(64) : 0;
            same("load(" + tile + ", " + bits + ")", array.load(tile, bits),
                    reference.load(tile, bits));
            if (load % 10 == 0) {
                compareAll();
            }
            if (draw(9) == 0) {
                array.reset();
                reference.reset();
                calls++;
            }
            clockSome();
        }
    }

    private void clockSome() {
        for (int time = 0; time < 3; time++) {
            int inputs = draw(64) - 16;
            same("clock(" + inputs + ")", array.clock(inputs), reference.clock(inputs));
            if (cells > 0) {
                same("run(" + inputs + ")", array.run(inputs), reference.run(inputs));
            }
        }
    }

    private void compareAll() {
        for (int cell = -1; cell <= 10; cell++) {
            same("tileOf(" + cell + ")", array.tileOf(cell), reference.tileOf(cell));
        }
        same("cost()", array.cost(), reference.cost());
        same("checkSum()", array.checkSum(), reference.checkSum());
        for (int tile = 0; tile < 16; tile++) {
            same("bits(" + tile + ")", array.bits(tile), reference.bits(tile));
        }
        for (int tile = draw(4); tile < 16; tile += 4) {
            for (int pin = 0; pin < 3; pin++) {
                same("pin(" + tile + ", " + pin + ")", array.pin(tile, pin),
                        reference.pin(tile, pin));
                same("channels(" + tile + ", " + pin + ")", array.channels(tile, pin),
                        reference.channels(tile, pin));
            }
        }
        for (int o = 0; o < 4; o++) {
            same("outputOf(" + o + ")", array.outputOf(o), reference.outputOf(o));
        }
        due.is("run " + run + ": longest()", array.longest(), reference.longest());
        due.is("run " + run + ": slack(9.5)", array.slack(9.5), reference.slack(9.5));
        calls += 2;
    }

    private void same(String call, long got, long want) {
        calls++;
        due.is("run " + run + ": " + call, got, want);
    }

    private void same(String call, boolean got, boolean want) {
        calls++;
        due.is("run " + run + ": " + call, got, want);
    }
}
