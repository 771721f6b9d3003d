/** Promise 18: clock. */
public final class Promise18ClockTest {
    public static void main(String[] args) {
        Due due = new Due("Promise18ClockTest");
        tables(due);
        inputsAndOutputs(due);
        registersAtOnce(due);
        sixteenTimes(due);
        evenTimes(due);
        timesOfThree(due);
        nothingGivesZero(due);
        due.end();
    }

    /** Tile 12 looks at input 3, tile 12's own register, and at tile 8's outlet. */
    private static void tables(Due due) {
        for (int row = 0; row < 8; row++) {
            TileArray x = new TileArray();
            x.load(0, Due.channel(Due.SOUTH, 2));
            x.load(4, Due.channel(Due.SOUTH, 3));
            x.load(8, Due.pin(0, Due.from(Due.NORTH)) | 0b10 | Due.channel(Due.SOUTH, 1));
            x.load(12, 1 << row | Due.pin(0, Due.from(Due.WEST)) | Due.pin(1, Due.from(Due.NORTH))
                    | Due.channel(Due.EAST, 1));
            for (int tile = 13; tile < 16; tile++) {
                x.load(tile, Due.channel(Due.EAST, 3));
            }
            for (int inputs = 0; inputs < 16; inputs++) {
                int want = (inputs >> 3 & 1) + 2 * (inputs & 1) == row ? 8 : 0;
                due.is("clock(" + inputs + ") with row " + row, x.clock(inputs), want);
            }
        }
    }

    private static void inputsAndOutputs(Due due) {
        TileArray x = new TileArray();
        for (int tile = 0; tile < 16; tile++) {
            x.load(tile, Due.channel(Due.EAST, 3));
        }
        for (int inputs = 0; inputs < 16; inputs++) {
            due.is("clock(" + inputs + ")", x.clock(inputs), inputs);
        }
        due.is("clock(16)", x.clock(16), 0);
        due.is("clock(-1)", x.clock(-1), 15);
        due.is("clock(the least)", x.clock(Integer.MIN_VALUE), 0);
        due.is("clock(the greatest)", x.clock(Integer.MAX_VALUE), 15);
    }

    /** Tiles 3 and 7 exchange what they hold at every clock. */
    private static void registersAtOnce(Due due) {
        TileArray x = new TileArray();
        x.load(3, 0b10 | Due.register(true) | Due.pin(0, Due.from(Due.SOUTH))
                | Due.channel(Due.SOUTH, 1) | Due.channel(Due.EAST, 1));
        x.load(7, 0b10 | Due.register(false) | Due.pin(0, Due.from(Due.NORTH))
                | Due.channel(Due.NORTH, 1) | Due.channel(Due.EAST, 1));
        x.reset();
        due.is("clock(0), first", x.clock(0), 1);
        due.is("clock(0), second", x.clock(0), 2);
        due.is("clock(0), third", x.clock(0), 1);
        due.is("clock(0), fourth", x.clock(0), 2);
    }

    /** Each tile hands on what the next one gave a time ago: it takes all sixteen times. */
    private static void sixteenTimes(Due due) {
        TileArray x = new TileArray();
        long handOn = 0b10 | Due.pin(0, Due.from(Due.EAST)) | Due.channel(Due.WEST, 1);
        for (int tile = 0; tile < 16; tile++) {
            int row = tile / 4;
            int column = tile % 4;
            long bits = column < 3 ? handOn
                    : 0b10 | Due.pin(0, Due.from(Due.WEST + 1)) | Due.channel(Due.WEST, 1);
            // The first of each row goes north and, on track 1, east to the last of the row above.
            bits |= column == 0 && row > 0 ? Due.channel(Due.NORTH + 1, 1) : 0;
            bits |= column == 0 && row < 3 ? Due.channel(Due.EAST + 1, 2) : 0;
            bits |= (column == 1 || column == 2) && row < 3 ? Due.channel(Due.EAST + 1, 3) : 0;
            bits |= row == 0 ? Due.channel(Due.EAST, column == 0 ? 1 : 3) : 0;
            x.load(tile, bits);
        }
        x.load(15, 255 | Due.channel(Due.WEST, 1));
        due.is("pin(11, 0)", x.pin(11, 0), 12);
        due.is("outputOf(0)", x.outputOf(0), 0);
        due.is("clock(0)", x.clock(0), 1);
        x.load(15, Due.channel(Due.WEST, 1));
        due.is("clock(0)", x.clock(0), 0);
    }

    /** A tile that gives what it did not give before comes back at an even number of times. */
    private static void evenTimes(Due due) {
        TileArray x = new TileArray();
        x.load(3, 0b01 | Due.pin(0, 1) | Due.channel(Due.EAST, 1));
        due.is("clock(0)", x.clock(0), 0);
        x.load(3, 255 | Due.pin(0, 1) | Due.channel(Due.EAST, 1));
        x.clock(0);
        x.load(3, 0b01 | Due.pin(0, 1) | Due.channel(Due.EAST, 1));
        due.is("clock(0), from 1", x.clock(0), 1);
    }

    /**
     * Tile 3 gets tile 7, that tile 11, and that both of them, and gives whether they are the same.
     * Three times bring 0 0 to 0 1, to 1 0, and back: sixteen times bring it to 0 1, and so on.
     */
    private static void timesOfThree(Due due) {
        TileArray x = new TileArray();
        x.load(3, 0b10 | Due.pin(0, Due.from(Due.SOUTH)) | Due.channel(Due.SOUTH, 1));
        x.load(7, 0b10 | Due.pin(0, Due.from(Due.SOUTH)) | Due.channel(Due.NORTH, 1)
                | Due.channel(Due.EAST, 1) | Due.channel(Due.SOUTH, 1)
                | Due.channel(Due.SOUTH + 1, 3));
        x.load(3, x.bits(3) | Due.channel(Due.SOUTH + 1, 1));
        x.load(11, 0b1001 | Due.pin(0, Due.from(Due.NORTH)) | Due.pin(1, Due.from(Due.NORTH + 1))
                | Due.channel(Due.NORTH, 1) | Due.channel(Due.EAST, 1));
        due.is("pin(11, 1)", x.pin(11, 1), 3);
        due.is("clock(0), 0 1", x.clock(0), 4);
        due.is("clock(0), 1 0", x.clock(0), 2);
        due.is("clock(0), 0 0", x.clock(0), 0);
        due.is("clock(0), 0 1 again", x.clock(0), 4);
    }

    private static void nothingGivesZero(Due due) {
        TileArray x = new TileArray();
        x.load(3, 0b01 | Due.channel(Due.EAST, 1));
        due.is("clock(15), no pin gets anything", x.clock(15), 1);
        x.load(3, 0b11111110 | Due.channel(Due.EAST, 1));
        due.is("clock(15), row 0 gives 0", x.clock(15), 0);
        // Round tiles 5, 6, 10 and 9 goes a ring of channels, and tile 7 looks into it.
        x.load(5, Due.channel(Due.EAST, 2));
        x.load(6, Due.channel(Due.SOUTH, 2) | Due.channel(Due.EAST, 3));
        x.load(10, Due.channel(Due.WEST, 2));
        x.load(9, Due.channel(Due.NORTH, 2));
        x.load(7, 0b01 | Due.pin(0, Due.from(Due.WEST)) | Due.channel(Due.EAST, 1));
        due.is("pin(7, 0)", x.pin(7, 0), TileArray.RING);
        due.is("clock(15), a pin with RING", x.clock(15), 2);
    }
}
