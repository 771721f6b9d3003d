/** Promise 5: fix. */
public final class Promise05FixTest {
    private static final int EXTREME = Integer.MAX_VALUE;

    public static void main(String[] args) {
        Due due = new Due("Promise05FixTest");
        isFixed(due);
        refused(due);
        everyTile(due);
        due.end();
    }

    private static void isFixed(Due due) {
        TileArray x = new TileArray();
        x.cell(1, false, false);
        x.cell(2, false, false);
        due.is("fix(0, 9)", x.fix(0, 9), true);
        due.is("fix(0, 9) again", x.fix(0, 9), true);
        x.build();
        due.is("tileOf(0)", x.tileOf(0), 9);
        due.is("tileOf(1)", x.tileOf(1), 0);
        due.is("fix(1, 9), taken", x.fix(1, 9), false);
        due.is("fix(0, -1)", x.fix(0, -1), true);
        due.is("fix(1, -1)", x.fix(1, -1), true);
        due.is("fix(1, 9), free now", x.fix(1, 9), true);
        x.build();
        due.is("tileOf(0)", x.tileOf(0), 0);
        due.is("tileOf(1)", x.tileOf(1), 9);
        due.is("fix(1, 4), moved", x.fix(1, 4), true);
        due.is("fix(0, 9), free again", x.fix(0, 9), true);
        x.build();
        due.is("tileOf(0)", x.tileOf(0), 9);
        due.is("tileOf(1)", x.tileOf(1), 4);
    }

    private static void refused(Due due) {
        TileArray x = new TileArray();
        due.is("fix(0, 0) without cells", x.fix(0, 0), false);
        x.cell(1, false, false);
        x.cell(2, false, false);
        x.fix(0, 6);
        int[] noCells = {-1, -2, 2, 9, 10, EXTREME, -EXTREME - 1};
        for (int cell : noCells) {
            due.is("fix(" + cell + ", 0)", x.fix(cell, 0), false);
            due.is("fix(" + cell + ", -1)", x.fix(cell, -1), false);
        }
        int[] noTiles = {-2, -3, 16, 17, EXTREME, -EXTREME - 1};
        for (int tile : noTiles) {
            due.is("fix(0, " + tile + ")", x.fix(0, tile), false);
        }
        x.fix(1, 6);
        x.build();
        due.is("tileOf(0), as before", x.tileOf(0), 6);
        due.is("tileOf(1), as before", x.tileOf(1), 0);
    }

    private static void everyTile(Due due) {
        for (int tile = 0; tile < 16; tile++) {
            TileArray x = new TileArray();
            x.cell(1, false, false);
            due.is("fix(0, " + tile + ")", x.fix(0, tile), true);
            x.build();
            due.is("tileOf(0)", x.tileOf(0), tile);
        }
    }
}
