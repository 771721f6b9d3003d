/** Promise 2: cell. */
public final class Promise02CellTest {
    public static void main(String[] args) {
        Due due = new Due("Promise02CellTest");
        tenCells(due);
        lowEightBits(due);
        registerAndFirst(due);
        due.end();
    }

    private static void tenCells(Due due) {
        TileArray x = new TileArray();
        for (int cell = 0; cell < 10; cell++) {
            due.is("cell() number " + cell, x.cell(cell, cell % 2 == 0, false), cell);
        }
        due.is("an eleventh cell()", x.cell(1, false, false), TileArray.NONE);
        due.is("a twelfth cell()", x.cell(1, true, true), TileArray.NONE);
        due.is("connect(10, 0, 10)", x.connect(10, 0, 10), false);
    }

    private static void lowEightBits(Due due) {
        int[] tables = {0, 1, 255, 256, 511, 0x1A5, -1, -256, Integer.MIN_VALUE, Integer.MAX_VALUE};
        int[] kept = {0, 1, 255, 0, 255, 0xA5, 255, 0, 0, 255};
        for (int i = 0; i < tables.length; i++) {
            TileArray x = new TileArray();
            x.cell(tables[i], false, false);
            x.build();
            due.is("bits(0) of cell(" + tables[i] + ", ..)", x.bits(0), kept[i]);
        }
    }

    private static void registerAndFirst(Due due) {
        for (int kind = 0; kind < 4; kind++) {
            boolean register = kind % 2 == 1;
            boolean first = kind >= 2;
            TileArray x = new TileArray();
            x.cell(0, register, first);
            x.output(1, 0);
            due.is("run(0), kind " + kind, x.run(0), register && first ? 2 : 0);
            due.is("run(0) again, kind " + kind, x.run(0), 0);
        }
    }
}
