/** Promise 6: build; the bits that are due were found by hand. */
public final class Promise06BuildTest {
    public static void main(String[] args) {
        Due due = new Due("Promise06BuildTest");
        oneCell(due);
        tableRegisterAndFirst(due);
        lowestWires(due);
        treeIsUsedAgain(due);
        sharedWiresAreDear(due);
        twoRounds(due);
        othersBecomeZero(due);
        noCells(due);
        ring(due);
        unrouted(due);
        inputsOnTrackZero(due);
        due.end();
    }

    private static void oneCell(Due due) {
        TileArray x = new TileArray();
        x.cell(0xAA, false, false);
        x.connect(0, 0, 10);
        x.output(0, 0);
        due.is("build()", x.build(), 1);
        due.is("bits(0)", x.bits(0),
                Due.table(0xAA) | Due.pin(0, Due.from(Due.WEST)) | Due.channel(Due.EAST, 1));
        for (int tile = 1; tile < 4; tile++) {
            due.is("bits(" + tile + ")", x.bits(tile), Due.channel(Due.EAST, 3));
        }
        for (int tile = 4; tile < 16; tile++) {
            due.is("bits(" + tile + ")", x.bits(tile), 0L);
        }
    }

    private static void tableRegisterAndFirst(Due due) {
        TileArray x = new TileArray();
        x.cell(3, false, false);
        x.cell(4, false, true);
        x.cell(5, true, false);
        x.cell(6, true, true);
        due.is("build() without nets", x.build(), 1);
        due.is("bits(0)", x.bits(0), 3L);
        due.is("bits(1)", x.bits(1), 4L + 512);
        due.is("bits(2)", x.bits(2), 5L + 256);
        due.is("bits(3)", x.bits(3), 6L + 768);
        due.is("bits(4)", x.bits(4), 0L);
    }

    /** From tile 5 to tile 15 there are many ways of four channels. */
    private static void lowestWires(Due due) {
        TileArray x = new TileArray();
        x.cell(255, true, false);
        x.cell(1, true, false);
        x.fix(0, 5);
        x.fix(1, 15);
        x.connect(1, 2, 0);
        due.is("build()", x.build(), 1);
        due.is("bits(5)", x.bits(5), 255 | Due.register(false) | Due.channel(Due.EAST, 1));
        due.is("bits(6)", x.bits(6), Due.channel(Due.EAST, 3));
        due.is("bits(7)", x.bits(7), Due.channel(Due.SOUTH, 2));
        due.is("bits(11)", x.bits(11), Due.channel(Due.SOUTH, 3));
        due.is("bits(15)", x.bits(15),
                1 | Due.register(false) | Due.pin(2, Due.from(Due.NORTH)));
        due.is("channels(15, 2)", x.channels(15, 2), 4);
        due.is("bits(9)", x.bits(9), 0L);
    }

    private static void treeIsUsedAgain(Due due) {
        TileArray x = new TileArray();
        x.cell(255, true, false);
        x.cell(1, true, false);
        x.cell(2, true, false);
        x.fix(0, 4);
        x.fix(1, 6);
        x.fix(2, 10);
        x.connect(0, 1, 0);
        x.connect(1, 0, 0);
        x.connect(1, 1, 0);
        x.connect(2, 0, 0);
        due.is("build()", x.build(), 1);
        due.is("bits(4)", x.bits(4),
                255 | Due.register(false) | Due.pin(1, 1) | Due.channel(Due.EAST, 1));
        due.is("bits(5)", x.bits(5), Due.channel(Due.EAST, 3));
        // The way to tile 10 leaves the tree, which ends at tile 6, for one channel more.
        due.is("bits(6)", x.bits(6), 1 | Due.register(false) | Due.pin(0, Due.from(Due.WEST))
                | Due.pin(1, Due.from(Due.WEST)) | Due.channel(Due.SOUTH, 2));
        due.is("bits(10)", x.bits(10),
                2 | Due.register(false) | Due.pin(0, Due.from(Due.NORTH)));
    }

    /** The channel from tile 0 to tile 1 costs the second net 1 + 3, a way round it but 3. */
    private static void sharedWiresAreDear(Due due) {
        TileArray x = new TileArray();
        x.cell(255, true, false);
        x.cell(1, true, false);
        x.fix(0, 0);
        x.fix(1, 1);
        x.connect(1, 0, 0);
        x.connect(1, 1, 10);
        due.is("build()", x.build(), 1);
        due.is("bits(0)", x.bits(0), 255 | Due.register(false) | Due.channel(Due.EAST, 1)
                | Due.channel(Due.SOUTH, 2));
        due.is("bits(1)", x.bits(1), 1 | Due.register(false) | Due.pin(0, Due.from(Due.WEST))
                | Due.pin(1, Due.from(Due.SOUTH)));
        due.is("bits(4)", x.bits(4), Due.channel(Due.EAST, 4));
        due.is("bits(5)", x.bits(5), Due.channel(Due.NORTH, 4));
    }

    /** In the first round nets share a wire; what is due stands in ../shared/tests, too. */
    private static void twoRounds(Due due) {
        TileArray x = new TileArray();
        x.cell(150, false, false);
        x.cell(232, true, true);
        for (int cell = 0; cell < 2; cell++) {
            x.connect(cell, 0, 10);
            x.connect(cell, 1, 11);
            x.connect(cell, 2, 1);
            x.output(cell, cell);
        }
        due.is("build()", x.build(), 2);
        due.is("bits(0)", x.bits(0), 20132996072L);
        due.is("bits(1)", x.bits(1), 4398317412502L);
        due.is("build() again", x.build(), 2);
        due.is("bits(1) again", x.bits(1), 4398317412502L);
    }

    private static void othersBecomeZero(Due due) {
        TileArray x = new TileArray();
        for (int tile = 0; tile < 16; tile++) {
            x.load(tile, 1023 | Due.pin(2, 1) | Due.channel(7, 1));
        }
        x.cell(7, false, false);
        due.is("build()", x.build(), 1);
        due.is("bits(0)", x.bits(0), 7L);
        for (int tile = 1; tile < 16; tile++) {
            due.is("bits(" + tile + ")", x.bits(tile), 0L);
        }
    }

    private static void noCells(Due due) {
        TileArray x = new TileArray();
        x.output(0, 10);
        x.load(3, 77);
        due.is("build() without cells", x.build(), TileArray.NONE);
        due.is("bits(3)", x.bits(3), 77L);
        due.is("cost()", x.cost(), 0);
    }

    private static void ring(Due due) {
        TileArray x = new TileArray();
        x.cell(1, false, false);
        x.cell(1, false, false);
        x.cell(1, true, false);
        x.connect(1, 2, 0);
        x.connect(2, 0, 1);
        x.connect(0, 1, 2);
        x.output(3, 1);
        due.is("build(), with a register in it", x.build(), 1);
        int sum = x.checkSum();
        int cost = x.cost();
        int tile = x.tileOf(0);
        x.connect(0, 0, 1);
        x.fix(0, tile == 15 ? 14 : 15);
        due.is("build() with a ring", x.build(), TileArray.RING);
        due.is("checkSum()", x.checkSum(), sum);
        due.is("cost()", x.cost(), cost);
        due.is("tileOf(0)", x.tileOf(0), tile);
        x.connect(0, 0, 0);
        due.is("build() with a cell that feeds itself", x.build(), TileArray.RING);
        x.connect(0, 0, -1);
        due.is("build() without a ring", x.build() > 0, true);
    }

    private static void unrouted(Due due) {
        TileArray x = new TileArray();
        x.cell(1, false, true);
        x.connect(0, 0, 10);
        x.output(0, 0);
        x.build();
        int sum = x.checkSum();
        int cost = x.cost();
        x.cell(2, false, false);
        // But two channels of track 0 lead into a corner, and inputs come on that track alone.
        x.fix(1, 15);
        for (int pin = 0; pin < 3; pin++) {
            x.connect(1, pin, 10 + pin);
        }
        x.fix(0, 10);
        due.is("build() with too few channels", x.build(), TileArray.UNROUTED);
        due.is("checkSum()", x.checkSum(), sum);
        due.is("cost()", x.cost(), cost);
        due.is("tileOf(0)", x.tileOf(0), 0);
        due.is("tileOf(1)", x.tileOf(1), TileArray.NONE);
        x.connect(1, 2, 0);
        due.is("build() with enough channels", x.build() > 0, true);
        due.is("tileOf(1)", x.tileOf(1), 15);
    }

    private static void inputsOnTrackZero(Due due) {
        for (int i = 0; i < 4; i++) {
            TileArray x = new TileArray();
            x.cell(2, false, false);
            x.fix(0, 4 * i);
            x.connect(0, 0, 10 + i);
            due.is("build()", x.build(), 1);
            due.is("bits(" + 4 * i + ")", x.bits(4 * i), 2 | Due.pin(0, Due.from(Due.WEST)));
        }
    }
}
