/** Promise 7: tileOf; where the cells come to stand was found by hand. */
public final class Promise07TileOfTest {
    public static void main(String[] args) {
        Due due = new Due("Promise07TileOfTest");
        lowestFreeTiles(due);
        exchanges(due);
        fixedStay(due);
        withoutBuilding(due);
        latestBuilding(due);
        due.end();
    }

    private static void lowestFreeTiles(Due due) {
        TileArray x = new TileArray();
        for (int cell = 0; cell < 5; cell++) {
            x.cell(cell, false, false);
        }
        x.fix(0, 1);
        x.fix(3, 2);
        x.build();
        int[] tiles = {1, 0, 3, 2, 4};
        for (int cell = 0; cell < 5; cell++) {
            due.is("tileOf(" + cell + ")", x.tileOf(cell), tiles[cell]);
        }
    }

    private static void exchanges(Due due) {
        TileArray x = new TileArray();
        x.cell(2, false, false);
        x.connect(0, 0, 13);
        x.output(3, 0);
        x.build();
        // Along row 3 all tiles cost the same: it is the first that is come to.
        due.is("tileOf(0) in row 3", x.tileOf(0), 12);
        x.connect(0, 0, -1);
        x.output(3, -1);
        x.output(1, 0);
        x.build();
        due.is("tileOf(0) at output 1", x.tileOf(0), 7);
    }

    private static void fixedStay(Due due) {
        TileArray x = new TileArray();
        x.cell(2, false, false);
        x.cell(2, false, false);
        x.fix(0, 0);
        x.output(3, 0);
        x.connect(1, 0, 10);
        x.build();
        due.is("tileOf(0), fixed", x.tileOf(0), 0);
        // Cell 1 would be better off on tile 0, but that has a fixed cell.
        due.is("tileOf(1)", x.tileOf(1), 1);
    }

    private static void withoutBuilding(Due due) {
        TileArray x = new TileArray();
        x.cell(2, false, false);
        due.is("tileOf(0) before build()", x.tileOf(0), TileArray.NONE);
        x.build();
        int[] noCells = {-1, -2, 1, 9, 10, Integer.MAX_VALUE, Integer.MIN_VALUE};
        for (int cell : noCells) {
            due.is("tileOf(" + cell + ")", x.tileOf(cell), TileArray.NONE);
        }
        x.cell(2, false, false);
        due.is("tileOf(1), made later", x.tileOf(1), TileArray.NONE);
        x.build();
        due.is("tileOf(1), built now", x.tileOf(1), 1);
    }

    private static void latestBuilding(Due due) {
        TileArray x = new TileArray();
        x.cell(2, false, false);
        x.fix(0, 6);
        x.build();
        x.fix(0, 7);
        due.is("tileOf(0), fixed anew", x.tileOf(0), 6);
        x.connect(0, 0, 0);
        x.build();
        due.is("tileOf(0) behind a refused build()", x.tileOf(0), 6);
        x.connect(0, 0, 10);
        x.load(6, 0);
        due.is("tileOf(0) behind load()", x.tileOf(0), 6);
        x.build();
        due.is("tileOf(0) behind the next build()", x.tileOf(0), 7);
    }
}
