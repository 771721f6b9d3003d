/** Promise 1: no cells, all bits 0, nothing built, all values 0. */
public final class Promise01NewObjectTest {
    public static void main(String[] args) {
        Due due = new Due("Promise01NewObjectTest");
        circuitIsEmpty(due);
        arrayIsEmpty(due);
        objectsAreApart(due);
        due.end();
    }

    private static void circuitIsEmpty(Due due) {
        TileArray x = new TileArray();
        due.is("build()", x.build(), TileArray.NONE);
        due.is("tileOf(0)", x.tileOf(0), TileArray.NONE);
        due.is("cost()", x.cost(), 0);
        due.is("run(15)", x.run(15), 0);
        due.is("cell(1, false, false)", x.cell(1, false, false), 0);
    }

    private static void arrayIsEmpty(Due due) {
        TileArray x = new TileArray();
        for (int tile = 0; tile < 16; tile++) {
            due.is("bits(" + tile + ")", x.bits(tile), 0L);
            for (int pin = 0; pin < 3; pin++) {
                due.is("pin(" + tile + ", " + pin + ")", x.pin(tile, pin), TileArray.NONE);
                due.is("channels(" + tile + ", " + pin + ")", x.channels(tile, pin), 0);
            }
        }
        for (int o = 0; o < 4; o++) {
            due.is("outputOf(" + o + ")", x.outputOf(o), TileArray.NONE);
        }
        due.is("longest()", x.longest(), 0.0);
        due.is("slack(1.0)", x.slack(1.0), 1.0);
        due.is("clock(15)", x.clock(15), 0);
    }

    private static void objectsAreApart(Due due) {
        TileArray used = new TileArray();
        used.cell(255, false, false);
        used.output(0, 0);
        used.build();
        TileArray x = new TileArray();
        due.is("build() of another", x.build(), TileArray.NONE);
        due.is("outputOf(0) of another", x.outputOf(0), TileArray.NONE);
    }
}
