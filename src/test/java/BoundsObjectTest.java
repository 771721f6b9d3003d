/** The head "What it is" and promise 1: a new object, and the last of its 512 calls. */
public final class BoundsObjectTest {
    private static final int MOST_CALLS = 512;

    public static void main(String[] args) {
        Due due = new Due("BoundsObjectTest");
        constants(due);
        newCircuit(due);
        newArray(due);
        nothingBuilt(due);
        lastRun(due);
        lastClock(due);
        lastBuild(due);
        lastLoad(due);
        behindTheLast(due);
        due.end();
    }

    private static void constants(Due due) {
        due.sentence("NONE = -1, RING = -2, UNROUTED = -3");
        due.is("NONE", TileArray.NONE, -1);
        due.is("RING", TileArray.RING, -2);
        due.is("UNROUTED", TileArray.UNROUTED, -3);
    }

    private static void newCircuit(Due due) {
        due.sentence("no cells");
        TileArray x = new TileArray();
        for (int source = -1; source < 15; source++) {
            due.is("connect(0, 0, " + source + ")", x.connect(0, 0, source), false);
            due.is("fix(0, " + source + ")", x.fix(0, source), false);
            due.is("output(0, " + source + ")", x.output(0, source),
                    source == -1 || source > 9 && source < 14);
        }
        due.is("cell(), the first", x.cell(0, false, false), 0);
    }

    private static void newArray(Due due) {
        due.sentence("all bits 0, all values 0");
        TileArray x = new TileArray();
        TileArray loaded = new TileArray();
        for (int tile = 0; tile < Grid.TILES; tile++) {
            loaded.load(tile, 0);
        }
        due.is("what is to be seen", Twins.seen(x), Twins.seen(loaded));
        due.is("checkSum()", x.checkSum(), 35372);
        due.is("clock(15)", x.clock(15), 0);
        due.is("run(15)", x.run(15), 0);
        for (int tile = 0; tile < Grid.TILES; tile++) {
            TileArray y = new TileArray();
            Grid.lead(y, tile, Due.register(true));
            due.is("clock(0) of the register of tile " + tile, y.clock(0), 0);
        }
    }

    private static void nothingBuilt(Due due) {
        due.sentence("nothing built");
        TileArray x = new TileArray();
        due.is("cost()", x.cost(), 0);
        for (int cell = -1; cell < 11; cell++) {
            due.is("tileOf(" + cell + ")", x.tileOf(cell), TileArray.NONE);
        }
        due.is("build()", x.build(), TileArray.NONE);
    }

    private static void lastRun(Due due) {
        due.sentence("an object is used for at most 512 calls: run()");
        TileArray x = new TileArray();
        x.cell(0b01, true, false);
        x.connect(0, 0, 0);
        x.output(2, 0);
        for (int call = 4; call <= MOST_CALLS; call++) {
            due.is("run(0), call " + call, x.run(0), call % 2 == 0 ? 0 : 4);
        }
    }

    private static void lastClock(Due due) {
        due.sentence("an object is used for at most 512 calls: clock()");
        TileArray x = new TileArray();
        x.load(3, 0b01 | Due.pin(0, 1) | Due.register(false) | Due.channel(Due.EAST, 1));
        for (int call = 2; call <= MOST_CALLS; call++) {
            due.is("clock(0), call " + call, x.clock(0), call % 2);
        }
    }

    private static void lastBuild(Due due) {
        due.sentence("an object is used for at most 512 calls: build()");
        TileArray x = Drawn.circuit("@13 0.0=13 0.1=12 0.2=11");
        for (int call = 6; call < MOST_CALLS; call++) {
            due.is("build(), call " + call, x.build(), 3);
        }
        due.is("checkSum(), the last call", x.checkSum(), 41478);
    }

    private static void lastLoad(Due due) {
        due.sentence("an object is used for at most 512 calls: load()");
        TileArray x = new TileArray();
        for (int call = 1; call < MOST_CALLS; call += 2) {
            due.is("load(), call " + call, x.load(call % 16, call), true);
            due.is("bits(), call " + (call + 1), x.bits(call % 16), (long) call);
        }
    }

    /** What is answered is free, but nothing may be thrown. */
    private static void behindTheLast(Due due) {
        due.sentence("what later calls answer is free");
        TileArray x = Drawn.circuit("@- @- 0.0=13 1.1=10 o2=1");
        for (int call = 0; call < 2 * MOST_CALLS; call++) {
            x.cell(call, true, true);
            x.connect(call % 11, call % 4, call % 16 - 1);
            x.output(call % 5, call % 16 - 1);
            x.fix(call % 11, call % 18 - 1);
            x.load(call % 17, call);
            x.clock(call);
            x.run(call);
        }
        x.build();
        x.reset();
        due.is("bits(16)", x.bits(16), 0L);
    }
}
