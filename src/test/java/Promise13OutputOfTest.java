/** Promise 13: outputOf. */
public final class Promise13OutputOfTest {
    public static void main(String[] args) {
        Due due = new Due("Promise13OutputOfTest");
        outletsAndInputs(due);
        rings(due);
        edges(due);
        due.end();
    }

    private static void outletsAndInputs(Due due) {
        for (int o = 0; o < 4; o++) {
            TileArray x = new TileArray();
            int last = 4 * o + 3;
            x.load(last, Due.channel(Due.EAST + 1, 1));
            due.is("outputOf(" + o + "), not of track 1", x.outputOf(o), TileArray.NONE);
            x.load(last, Due.channel(Due.EAST, 1));
            for (int other = 0; other < 4; other++) {
                due.is("outputOf(" + other + ")", x.outputOf(other),
                        other == o ? last : TileArray.NONE);
            }
            for (int column = 0; column < 4; column++) {
                x.load(4 * o + column, Due.channel(Due.EAST, 3));
            }
            due.is("outputOf(" + o + ") from the input", x.outputOf(o), 16 + o);
        }
        TileArray x = new TileArray();
        x.load(7, Due.channel(Due.EAST, 2));
        x.load(11, Due.channel(Due.NORTH, 1));
        due.is("outputOf(1) from the south", x.outputOf(1), 11);
        x.load(7, Due.channel(Due.EAST, 4));
        due.is("outputOf(1) from the north, nothing", x.outputOf(1), TileArray.NONE);
        x.load(3, Due.channel(Due.SOUTH, 1));
        due.is("outputOf(1) from the north", x.outputOf(1), 3);
    }

    /** Channels round tiles 2, 3, 7 and 6, and output 1 from tile 7. */
    private static void rings(Due due) {
        TileArray x = new TileArray();
        x.load(2, Due.channel(Due.EAST, 2));
        x.load(3, Due.channel(Due.SOUTH, 2));
        x.load(7, Due.channel(Due.WEST, 2) | Due.channel(Due.EAST, 4));
        x.load(6, Due.channel(Due.NORTH, 2));
        due.is("outputOf(1)", x.outputOf(1), TileArray.RING);
        due.is("outputOf(0)", x.outputOf(0), TileArray.NONE);
        due.is("clock(15)", x.clock(15), 0);
    }

    private static void edges(Due due) {
        TileArray x = new TileArray();
        for (int tile = 0; tile < 16; tile++) {
            x.load(tile, Due.channel(Due.EAST, 1));
        }
        int[] noOutputs = {-1, 4, 5, Integer.MAX_VALUE, Integer.MIN_VALUE};
        for (int o : noOutputs) {
            due.is("outputOf(" + o + ")", x.outputOf(o), TileArray.NONE);
        }
    }
}
