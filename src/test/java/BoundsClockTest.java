/** Promises 17 to 19: what registers and outlets hold, from when on, and one clock of each. */
public final class BoundsClockTest {
    /** A tile that keeps what it gives, leading to the east. */
    private static final long KEEP = 0b10 | Due.pin(0, 1);
    private static final long REGISTER = Due.register(false);
    private static final long FIRST = 512;

    public static void main(String[] args) {
        Due due = new Due("BoundsClockTest");
        zeroInTheBeginning(due);
        resetOfEachTile(due);
        resetOfEachCell(due);
        resetOfOutlets(due);
        asItWasBehindLoad(due);
        zeroWhenTheRegisterComes(due);
        zeroWhenTheRegisterGoes(due);
        otherTilesStay(due);
        asItWasBehindBuild(due);
        zeroWhenBuildBringsRegister(due);
        zeroWhenBuildTakesRegister(due);
        circuitStaysBehindLoadAndBuild(due);
        bitsOfInputs(due);
        outputBits(due);
        sixteenTimes(due);
        inOrderOfTiles(due);
        nothingAndRingGiveZero(due);
        answersBeforeRegisters(due);
        allRegistersAtOnce(due);
        runBitsOfInputs(due);
        runOutputBits(due);
        runTenCells(due);
        runRegistersAtOnce(due);
        runAnswersBeforeRegisters(due);
        runRingChangesNothing(due);
        runNewCells(due);
        due.end();
    }

    private static TileArray holding(int tile, long bits) {
        TileArray x = new TileArray();
        Grid.lead(x, tile, bits);
        return x;
    }

    /** The tile gives 1: by its register, or without one by its table; then it keeps that. */
    private static TileArray keepingOne(int tile, long register) {
        TileArray x = holding(tile, 255 | register);
        x.clock(0);
        Grid.lead(x, tile, KEEP | register);
        return x;
    }

    private static void zeroInTheBeginning(Due due) {
        due.sentence("0 in the beginning");
        for (int tile = 0; tile < Grid.TILES; tile++) {
            due.is("clock(15) of tile " + tile, holding(tile, KEEP).clock(15), 0);
            due.is("clock(15) of register " + tile,
                    holding(tile, KEEP | REGISTER | FIRST).clock(15), 0);
        }
    }

    private static void resetOfEachTile(Due due) {
        due.sentence("all registers, of the array and of the circuit, hold what they hold at first:"
                + " the array");
        for (int tile = 0; tile < Grid.TILES; tile++) {
            TileArray x = holding(tile, KEEP | REGISTER | FIRST);
            x.reset();
            due.is("clock(0) of tile " + tile + ", 1 at first", x.clock(0), Grid.bitOfRow(tile));
            due.is("clock(0) again", x.clock(0), Grid.bitOfRow(tile));
            x = keepingOne(tile, REGISTER);
            due.is("clock(0) of tile " + tile + " that holds 1", x.clock(0), Grid.bitOfRow(tile));
            x.reset();
            due.is("clock(0) behind reset(), 0 at first", x.clock(0), 0);
        }
    }

    private static void resetOfEachCell(Due due) {
        due.sentence("all registers, of the array and of the circuit, hold what they hold at first:"
                + " the circuit");
        for (int first = 0; first < 2; first++) {
            for (int cell = 0; cell < 10; cell++) {
                TileArray x = new TileArray();
                for (int other = 0; other < 10; other++) {
                    x.cell(first == 1 ? 0 : 255, true, first == 1);
                }
                x.output(1, cell);
                due.is("run(0) of cell " + cell, x.run(0), 2 * first);
                due.is("run(0), the other now", x.run(0), 2 - 2 * first);
                x.reset();
                due.is("run(0) behind reset()", x.run(0), 2 * first);
            }
        }
    }

    private static void resetOfOutlets(Due due) {
        due.sentence("all outlets of tiles without registers give 0");
        for (int tile = 0; tile < Grid.TILES; tile++) {
            TileArray x = keepingOne(tile, 0);
            due.is("clock(0) of tile " + tile, x.clock(0), Grid.bitOfRow(tile));
            Grid.lead(x, tile, KEEP | FIRST);
            x.reset();
            due.is("clock(0) behind reset()", x.clock(0), 0);
        }
    }

    private static void asItWasBehindLoad(Due due) {
        due.sentence("behind load(): what a register holds, or the outlet of a tile without one"
                + " gives, is as it was");
        for (int tile = 0; tile < Grid.TILES; tile++) {
            TileArray x = keepingOne(tile, REGISTER);
            Grid.lead(x, tile, KEEP | REGISTER | FIRST);
            due.is("clock(0) of register " + tile, x.clock(0), Grid.bitOfRow(tile));
            x = keepingOne(tile, 0);
            Grid.lead(x, tile, KEEP | FIRST);
            due.is("clock(0) of outlet " + tile, x.clock(0), Grid.bitOfRow(tile));
            x = holding(tile, KEEP | REGISTER);
            x.reset();
            Grid.lead(x, tile, KEEP | REGISTER | FIRST);
            due.is("clock(0) of register " + tile + " that holds 0", x.clock(0), 0);
        }
    }

    private static void zeroWhenTheRegisterComes(Due due) {
        due.sentence("it becomes 0 when the tile gets its register");
        for (int tile = 0; tile < Grid.TILES; tile++) {
            TileArray x = keepingOne(tile, 0);
            Grid.lead(x, tile, KEEP | REGISTER | FIRST);
            due.is("clock(0) of tile " + tile, x.clock(0), 0);
            x = keepingOne(tile, 0);
            Grid.lead(x, tile, KEEP | REGISTER);
            Grid.lead(x, tile, KEEP);
            due.is("clock(0), the register gone again", x.clock(0), 0);
        }
    }

    private static void zeroWhenTheRegisterGoes(Due due) {
        due.sentence("it becomes 0 when the tile loses its register");
        for (int tile = 0; tile < Grid.TILES; tile++) {
            TileArray x = keepingOne(tile, REGISTER);
            Grid.lead(x, tile, KEEP | FIRST);
            due.is("clock(0) of tile " + tile, x.clock(0), 0);
            x = keepingOne(tile, REGISTER);
            Grid.lead(x, tile, KEEP);
            Grid.lead(x, tile, KEEP | REGISTER | FIRST);
            due.is("clock(0), the register come again", x.clock(0), 0);
        }
    }

    private static void otherTilesStay(Due due) {
        due.sentence("when the tile gets or loses its register: that tile alone");
        TileArray x = new TileArray();
        for (int tile = 3; tile < Grid.TILES; tile += 4) {
            Grid.lead(x, tile, 255 | (tile < 8 ? REGISTER : 0));
        }
        x.clock(0);
        for (int tile = 3; tile < Grid.TILES; tile += 4) {
            Grid.lead(x, tile, KEEP | (tile < 8 ? REGISTER : 0));
        }
        due.is("clock(0)", x.clock(0), 15);
        Grid.lead(x, 7, KEEP);
        due.is("clock(0), tile 7 without its register", x.clock(0), 13);
        Grid.lead(x, 11, KEEP | REGISTER);
        due.is("clock(0), tile 11 with a register", x.clock(0), 9);
    }

    /** Cell 0 keeps what it gives on tile 3; by load() its tile is made to give 1. */
    private static TileArray builtAndOne(boolean register) {
        TileArray x = new TileArray();
        x.cell(0b10, register, false);
        x.cell(0b10, true, false);
        x.fix(0, 3);
        x.connect(0, 0, 1);
        x.output(0, 0);
        x.load(3, 255 | (register ? REGISTER : 0));
        x.clock(0);
        return x;
    }

    /** A register is seen at once; what a table gave, when it keeps it. */
    private static void asItWasBehindBuild(Due due) {
        due.sentence("behind build(): what a register holds, or the outlet of a tile without one"
                + " gives, is as it was");
        TileArray x = builtAndOne(true);
        x.build();
        due.is("clock(0) of the register", x.clock(0), 1);
        due.is("clock(0), clocked", x.clock(0), 0);
        x = builtAndOne(false);
        x.build();
        x.load(3, KEEP | Due.channel(Due.EAST, 1));
        due.is("clock(0) of the outlet", x.clock(0), 1);
        x.build();
        x.build();
        x.load(3, KEEP | Due.channel(Due.EAST, 1));
        due.is("clock(0) behind two buildings more", x.clock(0), 1);
        // A tile without a cell, in both buildings, keeps what it gives, too.
        x.load(15, 255 | Due.channel(Due.EAST, 1));
        x.clock(0);
        x.build();
        x.load(15, KEEP | Due.channel(Due.EAST, 1));
        due.is("clock(0) of a tile without a cell", x.clock(0) & 8, 8);
    }

    private static void zeroWhenBuildBringsRegister(Due due) {
        due.sentence("behind build(): it becomes 0 when the tile gets its register");
        TileArray x = builtAndOne(true);
        x.load(3, 255);
        x.clock(0);
        x.build();
        due.is("bits(3), a register", x.bits(3) & 256, 256L);
        due.is("clock(0)", x.clock(0), 0);
    }

    private static void zeroWhenBuildTakesRegister(Due due) {
        due.sentence("behind build(): it becomes 0 when the tile loses its register");
        TileArray x = builtAndOne(false);
        x.load(3, 255 | REGISTER);
        x.clock(0);
        x.build();
        x.load(3, KEEP | Due.channel(Due.EAST, 1));
        due.is("clock(0), a cell without a register", x.clock(0), 0);
        x.load(15, 255 | REGISTER | Due.channel(Due.EAST, 1));
        x.clock(0);
        x.build();
        x.load(15, KEEP | Due.channel(Due.EAST, 1));
        due.is("clock(0), a tile without a cell", x.clock(0) & 8, 0);
    }

    private static void circuitStaysBehindLoadAndBuild(Due due) {
        due.sentence("a register of the circuit is as it was behind load() and build()");
        TileArray x = new TileArray();
        x.cell(0b01, true, false);
        x.connect(0, 0, 0);
        x.output(0, 0);
        due.is("run(0)", x.run(0), 0);
        x.build();
        due.is("run(0) behind build()", x.run(0), 1);
        due.is("run(0)", x.run(0), 0);
        x.load(x.tileOf(0), 0);
        due.is("run(0) behind load()", x.run(0), 1);
    }

    private static void bitsOfInputs(Due due) {
        due.sentence("clock(): with the bits of inputs (bit i: input i)");
        TileArray x = new TileArray();
        for (int tile = 0; tile < Grid.TILES; tile++) {
            x.load(tile, Due.channel(Due.EAST, 3));
        }
        for (int bit = 0; bit < 32; bit++) {
            due.is("clock(bit " + bit + ")", x.clock(1 << bit), bit < 4 ? 1 << bit : 0);
            due.is("clock(all but bit " + bit + ")", x.clock(~(1 << bit)),
                    bit < 4 ? 15 - (1 << bit) : 15);
        }
        // A pin that gets an input gives its bit, whatever the others are.
        for (int i = 0; i < 4; i++) {
            TileArray y = holding(4 * i, 0b10 | Due.pin(0, Due.from(Due.WEST)));
            due.is("clock(input " + i + ")", y.clock(1 << i), 1 << i);
            due.is("clock(all other inputs)", y.clock(~(1 << i)), 0);
        }
    }

    private static void outputBits(Due due) {
        due.sentence("clock(): answers the outputs (bit o: output o)");
        for (int on = 0; on < 16; on++) {
            TileArray x = new TileArray();
            for (int o = 0; o < 4; o++) {
                Grid.lead(x, 4 * o + 3, (on >> o & 1) * 255);
            }
            due.is("clock(15)", x.clock(15), on);
            due.is("clock(0)", x.clock(0), on);
        }
    }

    /** A tile that gives the opposite of what it gave comes back in sixteen times, not in odd. */
    private static void sixteenTimes(Due due) {
        due.sentence("sixteen times");
        TileArray x = holding(3, 0b01 | Due.pin(0, 1));
        due.is("clock(0) of the opposite", x.clock(0), 0);
        due.is("clock(0) of the opposite again", x.clock(0), 0);
        // Each tile gives what the next one gave the time before: tile 0 is come to at the last.
        String chain = "0 0<e e<o E<S; 1 0<e w<o e<w E<W; 2 0<e w<o e<w E<W; 3 0<W w<o e<w;"
                + " 4 0<e N<o E<S; 5 0<e w<o E<W; 6 0<e w<o E<W; 7 0<W w<o; 8 0<e N<o E<S;"
                + " 9 0<e w<o E<W; 10 0<e w<o E<W; 11 0<W w<o; 12 0<e N<o; 13 0<e w<o; 14 0<e w<o;"
                + " 15 w<o 0<S";
        TileArray y = new TileArray();
        Drawn.load(y, chain, 0b10);
        y.load(15, y.bits(15) | 255);
        due.is("clock(0), 1 comes from tile 15 to tile 0", y.clock(0), 1);
        y.load(15, y.bits(15) & ~255L);
        due.is("clock(0), and 0", y.clock(0), 0);
        // A register on the way hands it on with the next clock alone.
        y.load(15, y.bits(15) | 255);
        y.load(14, y.bits(14) | 256);
        due.is("clock(0), tile 14 waits for the clock", y.clock(0), 0);
        due.is("clock(0), now it gives 1", y.clock(0), 1);
    }

    /** Tile 2 looks at tile 3, tile 3 at tile 2, and both turn it over or not. */
    private static void inOrderOfTiles(Due due) {
        due.sentence("in order of tiles");
        TileArray x = new TileArray();
        x.load(2, 0b01 | Due.pin(0, Due.from(Due.EAST)) | Due.channel(Due.EAST, 1)
                | Due.channel(Due.SOUTH, 1));
        x.load(3, 0b10 | Due.pin(0, Due.from(Due.WEST)) | Due.channel(Due.WEST, 1)
                | Due.channel(Due.EAST, 1));
        x.load(6, Due.channel(Due.EAST, 4));
        x.load(7, Due.channel(Due.EAST, 3));
        // 0 0, then 1 1, then 0 0 ..: were they not one behind the other, 1 0, 1 1, 0 1, 0 0.
        due.is("pin(2, 0)", x.pin(2, 0), 3);
        due.is("outputOf(1)", x.outputOf(1), 2);
        due.is("clock(0)", x.clock(0), 0);
        x.load(3, 255 | x.bits(3));
        due.is("clock(0), tile 3 gives 1", x.clock(0), 1);
        x.load(3, x.bits(3) & ~255L | 0b10);
        due.is("clock(0), from 0 1", x.clock(0), 3);
    }

    private static void nothingAndRingGiveZero(Due due) {
        due.sentence("0 if it gets nothing or RING");
        for (int pin = 0; pin < 3; pin++) {
            TileArray x = holding(7, 0b01 | Due.pin(pin, Due.from(Due.NORTH)));
            due.is("pin(7, " + pin + ")", x.pin(7, pin), TileArray.NONE);
            due.is("clock(15), a pin gets nothing", x.clock(15), 2);
            TileArray y = holding(7, 0b01 | Due.pin(pin, Due.from(Due.WEST)));
            Drawn.load(y, "5 e<s; 6 s<w e<w; 10 w<n; 9 n<e", 255);
            due.is("pin(7, " + pin + ")", y.pin(7, pin), TileArray.RING);
            due.is("clock(15), a pin gets RING", y.clock(15), 2);
        }
        TileArray z = new TileArray();
        Drawn.load(z, "2 e<s; 3 s<w e<w; 7 w<n e<n; 6 n<e; 11 e<n", 255);
        due.is("outputOf(0)", z.outputOf(0), TileArray.RING);
        due.is("outputOf(2)", z.outputOf(2), TileArray.NONE);
        due.is("clock(15), outputs that get RING or nothing", z.clock(15), 0);
    }

    private static void answersBeforeRegisters(Due due) {
        due.sentence("answers the outputs; then all registers become what their tables give");
        TileArray x = holding(3, 0b01 | Due.pin(0, 1) | REGISTER);
        for (int time = 0; time < 6; time++) {
            due.is("clock(0) number " + time, x.clock(0), time % 2);
        }
        // Tile 7 gives what tile 3's register holds, by its table.
        x.load(3, x.bits(3) | Due.channel(Due.SOUTH, 1));
        Grid.lead(x, 7, 0b10 | Due.pin(0, Due.from(Due.NORTH)));
        due.is("clock(0), with a table behind the register", x.clock(0), 0);
        due.is("clock(0), with a table behind the register", x.clock(0), 3);
    }

    /** Sixteen registers in a ring: what one of them holds goes round in sixteen clocks. */
    private static void allRegistersAtOnce(Due due) {
        due.sentence("all registers at once");
        int[] round = {0, 1, 2, 3, 7, 6, 5, 9, 10, 11, 15, 14, 13, 12, 8, 4};
        TileArray x = new TileArray();
        Drawn.load(x, "0 0<s e<o; 1 0<w e<o; 2 0<w e<o; 3 0<w s<o e<o; 7 0<n w<o e<o; 6 0<e w<o;"
                + " 5 0<e s<o; 9 0<n e<o; 10 0<w e<o; 11 0<w s<o e<o; 15 0<n w<o e<o; 14 0<e w<o;"
                + " 13 0<e w<o; 12 0<e n<o; 8 0<s n<o; 4 0<s n<o", 0b10 | REGISTER);
        x.load(0, x.bits(0) | FIRST);
        x.reset();
        for (int time = 0; time < 40; time++) {
            int tile = round[time % 16];
            due.is("clock(0), 1 is at tile " + tile, x.clock(0),
                    tile % 4 == 3 ? Grid.bitOfRow(tile) : 0);
        }
    }

    private static void runBitsOfInputs(Due due) {
        due.sentence("run(): with the bits of inputs");
        TileArray x = new TileArray();
        x.cell(0b10, false, false);
        for (int o = 0; o < 4; o++) {
            x.output(o, 10 + o);
        }
        for (int bit = 0; bit < 32; bit++) {
            due.is("run(bit " + bit + ")", x.run(1 << bit), bit < 4 ? 1 << bit : 0);
            due.is("run(all but bit " + bit + ")", x.run(~(1 << bit)),
                    bit < 4 ? 15 - (1 << bit) : 15);
        }
        x.output(0, 0);
        for (int i = 0; i < 4; i++) {
            x.connect(0, 0, 10 + i);
            due.is("run(input " + i + ")", x.run(1 << i) & 1, 1);
            due.is("run(all other inputs)", x.run(~(1 << i)) & 1, 0);
        }
    }

    private static void runOutputBits(Due due) {
        due.sentence("run(): answers the outputs");
        for (int on = 0; on < 16; on++) {
            TileArray x = new TileArray();
            x.cell(255, false, false);
            for (int o = 0; o < 4; o++) {
                x.output(o, (on >> o & 1) - 1);
            }
            due.is("run(15)", x.run(15), on);
        }
    }

    private static void runTenCells(Due due) {
        due.sentence("values of cells without registers follow their tables: ten, in any order");
        int[][] orders = {
            {0, 1, 2, 3, 4, 5, 6, 7, 8, 9}, {9, 8, 7, 6, 5, 4, 3, 2, 1, 0},
            {5, 0, 9, 1, 8, 2, 7, 3, 6, 4},
        };
        for (int[] order : orders) {
            TileArray x = new TileArray();
            for (int cell = 0; cell < 10; cell++) {
                x.cell(0b01, false, true);
            }
            x.connect(order[0], 0, 13);
            for (int i = 1; i < 10; i++) {
                x.connect(order[i], 0, order[i - 1]);
            }
            x.output(0, order[9]);
            x.output(1, order[8]);
            due.is("run(8) behind ten cells", x.run(8), 1);
            due.is("run(0) behind ten cells", x.run(0), 2);
            due.is("run(8) behind ten cells", x.run(8), 1);
        }
    }

    private static void runRegistersAtOnce(Due due) {
        due.sentence("run(): registers as above, all at once");
        TileArray x = new TileArray();
        for (int cell = 0; cell < 10; cell++) {
            x.cell(0b10, true, cell == 0);
        }
        for (int cell = 0; cell < 10; cell++) {
            x.connect(cell, 0, (cell + 9) % 10);
        }
        x.output(0, 0);
        x.output(1, 1);
        x.output(2, 5);
        x.output(3, 9);
        int[] given = {1, 2, 0, 0, 0, 4, 0, 0, 0, 8};
        for (int time = 0; time < 25; time++) {
            due.is("run(0) number " + time, x.run(0), given[time % 10]);
        }
    }

    private static void runAnswersBeforeRegisters(Due due) {
        due.sentence("run(): answers the outputs; then the registers");
        TileArray x = new TileArray();
        x.cell(0b01, true, false);
        x.cell(0b10, false, false);
        x.connect(0, 0, 0);
        x.connect(1, 0, 0);
        x.output(0, 0);
        x.output(3, 1);
        for (int time = 0; time < 6; time++) {
            due.is("run(0) number " + time, x.run(0), time % 2 == 0 ? 0 : 9);
        }
    }

    private static void runRingChangesNothing(Due due) {
        due.sentence("run(): RING, and nothing changes, if the circuit has a ring");
        Twins.stayAlike(due, "run() with a ring", x -> {
            x.cell(0b01, true, false);
            x.cell(0b10, false, false);
            x.connect(0, 0, 0);
            x.connect(0, 1, 12);
            x.output(0, 0);
            x.output(1, 1);
            x.build();
            x.run(0);
            x.connect(1, 2, 1);
        }, x -> {
            for (int inputs = 0; inputs < 5; inputs++) {
                due.is("run(" + inputs + ")", x.run(inputs), TileArray.RING);
            }
        }, x -> x.connect(1, 2, -1));
        // An odd number of clocks would be seen, had the ring let one through.
        TileArray x = new TileArray();
        x.cell(0b01, true, false);
        x.cell(0, false, false);
        x.connect(0, 0, 0);
        x.output(0, 0);
        due.is("run(0)", x.run(0), 0);
        x.connect(1, 1, 1);
        due.is("run(0) with a ring", x.run(0), TileArray.RING);
        x.connect(1, 1, -1);
        due.is("run(0) without it", x.run(0), 1);
    }

    private static void runNewCells(Due due) {
        due.sentence("(the register of a new cell holds what it holds at first)");
        TileArray x = new TileArray();
        for (int cell = 0; cell < 10; cell++) {
            x.cell(0, true, cell % 2 == 1);
            x.output(2, cell);
            due.is("run(0) of new cell " + cell, x.run(0), cell % 2 == 1 ? 4 : 0);
            due.is("run(0) again", x.run(0), 0);
        }
    }
}
