/** Promises 6 to 8: what a building answers, what it changes, and that below 0 nothing changes. */
public final class BoundsBuildTest {
    public static void main(String[] args) {
        Due due = new Due("BoundsBuildTest");
        bitsOfCells(due);
        zeroWithoutCell(due);
        noneWithoutCells(due);
        ringOnceCellsAreThere(due);
        noneChangesNothing(due);
        ringChangesNothing(due);
        unroutedChangesNothing(due);
        firstBuildingRefused(due);
        noWayIsNeverMissing(due);
        tileOfNoCell(due);
        tileOfLaterCell(due);
        tileOfWithoutBuilding(due);
        latestThatWasNotRefused(due);
        costWithoutBuilding(due);
        due.end();
    }

    private static void bitsOfCells(Due due) {
        due.sentence("table, register and what it holds at first of the cell on each tile");
        TileArray x = new TileArray();
        int[] tables = {0, 255, 1, 128, 170, 85, 254, 127, 15, 240};
        for (int cell = 0; cell < 10; cell++) {
            x.cell(tables[cell], cell % 2 == 1, cell % 4 > 1);
            x.fix(cell, 15 - cell);
        }
        due.is("build()", x.build(), 1);
        for (int cell = 0; cell < 10; cell++) {
            // First stands there without a register, too.
            long want = tables[cell] + 256L * (cell % 2) + 512L * (cell % 4 / 2);
            due.is("bits(" + (15 - cell) + ")", x.bits(15 - cell), want);
        }
    }

    private static void zeroWithoutCell(Due due) {
        due.sentence("(0 without a cell)");
        for (int tile = 0; tile < Grid.TILES; tile++) {
            TileArray x = Drawn.circuit("@" + tile);
            for (int other = 0; other < Grid.TILES; other++) {
                x.load(other, 1023 | Due.pin(0, 9) | Due.channel(7, 4));
            }
            due.is("build()", x.build(), 1);
            for (int other = 0; other < Grid.TILES; other++) {
                due.is("bits(" + other + ") with the cell on " + tile, x.bits(other),
                        other == tile ? 256L : 0L);
            }
        }
        // A way through a tile without a cell leaves its first ten bits 0.
        TileArray x = Drawn.circuit("@4 o1=0");
        x.load(5, 1023);
        x.build();
        due.is("bits(5) on a way", x.bits(5), Due.channel(Due.EAST, 3));
    }

    private static void noneWithoutCells(Due due) {
        due.sentence("NONE if there are no cells");
        TileArray x = new TileArray();
        due.is("build()", x.build(), TileArray.NONE);
        x.output(0, 10);
        x.output(3, 13);
        due.is("build() with outputs", x.build(), TileArray.NONE);
        x.cell(0, false, false);
        due.is("build() with one cell", x.build(), 1);
    }

    private static void ringOnceCellsAreThere(Due due) {
        due.sentence("RING");
        TileArray x = new TileArray();
        x.cell(0, false, false);
        x.connect(0, 0, 0);
        due.is("build() of one cell in a ring", x.build(), TileArray.RING);
        // Too few channels lead to tile 3, and there is a ring: it is not routed.
        TileArray y = Drawn.circuit("@3 0.0=12 0.1=10 o0=11");
        due.is("build()", y.build(), TileArray.UNROUTED);
        y.cell(0, false, false);
        y.connect(1, 0, 1);
        due.is("build() with a ring", y.build(), TileArray.RING);
    }

    private static void noneChangesNothing(Due due) {
        due.sentence("below 0 nothing changes: NONE");
        Twins.stayAlike(due, "build() without cells", x -> {
            x.output(0, 12);
            Grid.lead(x, 0, 0b01 | Due.pin(0, 1) | Due.register(false));
            Grid.lead(x, 12, 255);
            x.reset();
            x.clock(0);
            x.load(12, 0b10 | Due.pin(0, 1) | Due.channel(Due.EAST, 1));
        }, x -> {
            x.build();
            x.build();
        });
    }

    /** A register that holds the other than at first, in the circuit and on its tile. */
    private static void toggling(TileArray x) {
        x.cell(0b01, true, false);
        x.cell(0b10, false, true);
        x.connect(0, 0, 0);
        x.connect(1, 0, 0);
        x.output(0, 0);
        x.output(3, 1);
        x.fix(1, 9);
        x.build();
        x.load(4, 0b10 | Due.pin(0, 1));
        x.reset();
        x.clock(0);
        x.run(0);
    }

    private static void ringChangesNothing(Due due) {
        due.sentence("below 0 nothing changes: RING");
        Twins.stayAlike(due, "build() with a ring", x -> {
            toggling(x);
            x.connect(1, 2, 1);
            x.fix(1, 15);
            x.fix(0, 12);
        }, x -> {
            due.is("build() with a ring", x.build(), TileArray.RING);
            due.is("build() with a ring again", x.build(), TileArray.RING);
        }, x -> x.connect(1, 2, -1));
    }

    private static void unroutedChangesNothing(Due due) {
        due.sentence("below 0 nothing changes: UNROUTED");
        Twins.stayAlike(due, "build() of too much", x -> {
            toggling(x);
            x.fix(0, 3);
            x.connect(0, 1, 12);
            x.connect(0, 2, 10);
            x.output(0, 11);
        }, x -> {
            due.is("build() of too much", x.build(), TileArray.UNROUTED);
            due.is("build() of too much again", x.build(), TileArray.UNROUTED);
        }, x -> x.output(0, 0));
    }

    private static void firstBuildingRefused(Due due) {
        due.sentence("below 0 nothing changes: before any building");
        TileArray x = Drawn.circuit("@3 0.0=12 0.1=10 o0=11");
        String before = Twins.seen(x);
        due.is("build()", x.build(), TileArray.UNROUTED);
        due.is("what is to be seen", Twins.seen(x), before);
        TileArray y = new TileArray();
        y.cell(255, false, false);
        y.connect(0, 1, 0);
        before = Twins.seen(y);
        due.is("build()", y.build(), TileArray.RING);
        due.is("what is to be seen", Twins.seen(y), before);
    }

    /**
     * As the wires are, a way leads from every wire to every sink (if it is shared with other nets
     * or not), so that it is the rounds alone that can fail a building.
     */
    private static void noWayIsNeverMissing(Due due) {
        due.sentence("(a sink that no way leads to fails the building)");
        for (int from = 0; from < Grid.TILES + 4; from++) {
            for (int to = 0; to < Grid.TILES; to++) {
                boolean input = from >= Grid.TILES;
                String circuit = input ? "@" + to + " 0.0=" + (from - 6)
                        : from == to ? "@" + to + " 0.0=0" : "@" + to + " @" + from + " 0.0=1";
                TileArray x = Drawn.circuit(circuit);
                due.is("build() of " + circuit, x.build(), 1);
                due.is("pin(" + to + ", 0)", x.pin(to, 0), from);
            }
            for (int o = 0; o < 4; o++) {
                String circuit = from < Grid.TILES ? "@" + from + " o" + o + "=0"
                        : "@0 o" + o + "=" + (from - 6);
                TileArray x = Drawn.circuit(circuit);
                due.is("build() of " + circuit, x.build(), 1);
                due.is("outputOf(" + o + ")", x.outputOf(o), from);
            }
        }
    }

    private static void tileOfNoCell(Due due) {
        due.sentence("NONE if there is no such cell");
        TileArray x = Drawn.circuit("@7 @8 @9");
        x.build();
        int[] none = {Integer.MIN_VALUE, -2, -1, 3, 4, 9, 10, 11, Integer.MAX_VALUE};
        for (int cell : none) {
            due.is("tileOf(" + cell + ")", x.tileOf(cell), TileArray.NONE);
        }
        due.is("tileOf(0)", x.tileOf(0), 7);
        due.is("tileOf(2)", x.tileOf(2), 9);
        TileArray ten = Drawn.circuit("@15 @14 @13 @12 @11 @10 @9 @8 @7 @0");
        ten.build();
        due.is("tileOf(0) of ten", ten.tileOf(0), 15);
        due.is("tileOf(9) of ten", ten.tileOf(9), 0);
        due.is("tileOf(10) of ten", ten.tileOf(10), TileArray.NONE);
    }

    private static void tileOfLaterCell(Due due) {
        due.sentence("NONE if it was made later");
        TileArray x = Drawn.circuit("@-");
        for (int cell = 1; cell < 10; cell++) {
            x.build();
            x.cell(0, false, false);
            due.is("tileOf(" + (cell - 1) + ")", x.tileOf(cell - 1), cell - 1);
            due.is("tileOf(" + cell + "), made later", x.tileOf(cell), TileArray.NONE);
            x.connect(cell, 0, cell);
            due.is("build() with a ring", x.build(), TileArray.RING);
            due.is("tileOf(" + cell + ") behind it", x.tileOf(cell), TileArray.NONE);
            x.connect(cell, 0, -1);
            x.fix(cell, cell);
            due.is("tileOf(" + cell + "), fixed", x.tileOf(cell), TileArray.NONE);
        }
    }

    private static void tileOfWithoutBuilding(Due due) {
        due.sentence("NONE if there was no building");
        TileArray x = Drawn.circuit("@0 @1 @2 @3 @4 @5 @6 @7 @8 @9");
        for (int cell = 0; cell < 10; cell++) {
            due.is("tileOf(" + cell + ")", x.tileOf(cell), TileArray.NONE);
        }
        x.load(0, 255);
        x.reset();
        x.run(0);
        x.clock(0);
        due.is("tileOf(0) behind other calls", x.tileOf(0), TileArray.NONE);
    }

    private static void latestThatWasNotRefused(Due due) {
        due.sentence("in the latest building that was not refused");
        TileArray x = Drawn.circuit("@5 @6 1.0=0");
        x.build();
        x.fix(0, 0);
        x.fix(1, 15);
        due.is("tiles, fixed anew", Drawn.tiles(x, 2), "5 6");
        due.is("cost(), fixed anew", x.cost(), 1);
        x.cell(0, false, false);
        x.connect(2, 0, 2);
        due.is("build() with a ring", x.build(), TileArray.RING);
        due.is("tiles behind RING", Drawn.tiles(x, 3), "5 6 -1");
        due.is("cost() behind RING", x.cost(), 1);
        Drawn.connect(x, "2.0=12 2.1=10 o0=11");
        x.fix(2, 3);
        due.is("build() of too much", x.build(), TileArray.UNROUTED);
        due.is("tiles behind UNROUTED", Drawn.tiles(x, 3), "5 6 -1");
        due.is("cost() behind UNROUTED", x.cost(), 1);
        Drawn.connect(x, "2.0=-1 2.1=-1 o0=-1");
        due.is("build()", x.build(), 1);
        due.is("tiles, built", Drawn.tiles(x, 3), "0 15 3");
        due.is("cost(), built", x.cost(), 6);
    }

    private static void costWithoutBuilding(Due due) {
        due.sentence("cost(): 0 if there was none");
        TileArray x = new TileArray();
        due.is("cost()", x.cost(), 0);
        x.output(3, 10);
        x.build();
        due.is("cost() behind NONE", x.cost(), 0);
        x.cell(0, false, false);
        x.connect(0, 0, 0);
        due.is("cost() with a cell", x.cost(), 0);
        x.build();
        due.is("cost() behind RING", x.cost(), 0);
        x.connect(0, 0, 13);
        due.is("cost() before build()", x.cost(), 0);
        x.build();
        due.is("cost() behind build()", x.cost(), 6);
    }
}
