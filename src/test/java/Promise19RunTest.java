/** Promise 19: run. */
public final class Promise19RunTest {
    public static void main(String[] args) {
        Due due = new Due("Promise19RunTest");
        tables(due);
        inputsAlone(due);
        laterCellsFirst(due);
        registersAtOnce(due);
        rings(due);
        newCells(due);
        apartFromArray(due);
        due.end();
    }

    private static void tables(Due due) {
        for (int row = 0; row < 8; row++) {
            TileArray x = new TileArray();
            x.cell(1 << row, false, true);
            for (int pin = 0; pin < 3; pin++) {
                x.connect(0, pin, 10 + pin);
            }
            x.output(3, 0);
            for (int inputs = 0; inputs < 8; inputs++) {
                due.is("run(" + inputs + ") with row " + row, x.run(inputs), inputs == row ? 8 : 0);
            }
        }
    }

    private static void inputsAlone(Due due) {
        TileArray x = new TileArray();
        for (int o = 0; o < 4; o++) {
            x.output(o, 10 + o);
        }
        for (int inputs = 0; inputs < 16; inputs++) {
            due.is("run(" + inputs + ") without cells", x.run(inputs), inputs);
        }
        due.is("run(-1)", x.run(-1), 15);
        due.is("run(16)", x.run(16), 0);
        due.is("run(the least)", x.run(Integer.MIN_VALUE), 0);
        due.is("run(the greatest)", x.run(Integer.MAX_VALUE), 15);
    }

    /** Ten cells, each the opposite of the next, the last of input 2. */
    private static void laterCellsFirst(Due due) {
        TileArray x = new TileArray();
        for (int cell = 0; cell < 10; cell++) {
            x.cell(0b01, false, false);
        }
        for (int cell = 0; cell < 10; cell++) {
            x.connect(cell, 0, cell < 9 ? cell + 1 : 12);
        }
        x.output(0, 0);
        x.output(1, 9);
        due.is("run(4)", x.run(4), 1);
        due.is("run(0)", x.run(0), 2);
        due.is("run(4)", x.run(4), 1);
    }

    private static void registersAtOnce(Due due) {
        TileArray x = new TileArray();
        x.cell(0b10, true, true);
        x.cell(0b10, true, false);
        x.connect(0, 0, 1);
        x.connect(1, 0, 0);
        x.output(0, 0);
        x.output(1, 1);
        due.is("run(0), first", x.run(0), 1);
        due.is("run(0), second", x.run(0), 2);
        due.is("run(0), third", x.run(0), 1);
    }

    private static void rings(Due due) {
        TileArray x = new TileArray();
        x.cell(0b01, true, false);
        x.cell(0b10, false, false);
        x.cell(0b10, false, false);
        x.connect(0, 0, 0);
        x.output(0, 0);
        due.is("run(0)", x.run(0), 0);
        x.connect(1, 2, 2);
        x.connect(2, 1, 1);
        due.is("run(0), cells 1 and 2 in a ring that no output has", x.run(0), TileArray.RING);
        due.is("run(0), again", x.run(0), TileArray.RING);
        x.connect(2, 1, -1);
        due.is("run(0), the register as it was", x.run(0), 1);
        x.connect(1, 2, 1);
        due.is("run(0), cell 1 is its own source", x.run(0), TileArray.RING);
        x.connect(1, 2, 0);
        x.connect(0, 1, 1);
        due.is("run(0), a ring with a register is none", x.run(0), 0);
    }

    private static void newCells(Due due) {
        TileArray x = new TileArray();
        x.cell(0, true, true);
        x.output(0, 0);
        due.is("run(0)", x.run(0), 1);
        due.is("run(0)", x.run(0), 0);
        x.cell(0, true, true);
        x.output(1, 1);
        due.is("run(0), the new cell's first", x.run(0), 2);
        x.cell(0, false, true);
        x.output(2, 2);
        due.is("run(0), no first without a register", x.run(0), 0);
    }

    private static void apartFromArray(Due due) {
        TileArray x = new TileArray();
        x.cell(0b01, true, true);
        x.connect(0, 0, 0);
        x.output(0, 0);
        x.build();
        x.reset();
        due.is("run(0)", x.run(0), 1);
        due.is("clock(0), not clocked by run()", x.clock(0), 1);
        due.is("clock(0)", x.clock(0), 0);
        due.is("run(0), clocked once", x.run(0), 0);
    }
}
