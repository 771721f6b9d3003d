/** The head "The circuit" and promises 2 to 5: how many, which numbers, and what is refused. */
public final class BoundsCircuitTest {
    private static final int LEAST = Integer.MIN_VALUE;
    private static final int GREATEST = Integer.MAX_VALUE;

    public static void main(String[] args) {
        Due due = new Due("BoundsCircuitTest");
        atMostTen(due);
        eleventhChangesNothing(due);
        lowEightBits(due);
        registerAndFirst(due);
        noSourceAtFirst(due);
        cellsAsSources(due);
        inputsAsSources(due);
        noneAsSource(due);
        connectRefusesCells(due);
        connectRefusesPins(due);
        connectRefusesSources(due);
        outputRefusesOutputs(due);
        outputRefusesSources(due);
        fixTakesTiles(due);
        fixRefusesCells(due);
        fixRefusesTiles(due);
        fixRefusesTaken(due);
        fixNoMore(due);
        ringsOfAllLengths(due);
        registersOpenRings(due);
        ringAnywhere(due);
        noRings(due);
        due.end();
    }

    private static TileArray cells(int count) {
        TileArray x = new TileArray();
        addCells(x, count);
        return x;
    }

    private static void addCells(TileArray x, int count) {
        for (int cell = 0; cell < count; cell++) {
            x.cell(0b10, false, false);
        }
    }

    private static void atMostTen(Due due) {
        due.sentence("at most ten cells, 0, 1, .. in the order of their making");
        TileArray x = new TileArray();
        for (int cell = 0; cell < 10; cell++) {
            due.is("connect(" + cell + ", 0, 10), not made", x.connect(cell, 0, 10), false);
            due.is("cell() number " + cell, x.cell(0b10, false, false), cell);
            due.is("connect(" + cell + ", 0, 10), made", x.connect(cell, 0, 10), true);
        }
        due.is("cell(), the eleventh", x.cell(0b10, false, false), TileArray.NONE);
        due.is("connect(10, 0, 10)", x.connect(10, 0, 10), false);
        x.output(3, 9);
        due.is("run(1) of the tenth", x.run(1), 8);
        due.is("build() with ten", x.build() > 0, true);
        due.is("tileOf(9)", x.tileOf(9) >= 0, true);
        due.is("tileOf(10)", x.tileOf(10), TileArray.NONE);
        due.is("cell(), the eleventh behind build()", x.cell(0, true, true), TileArray.NONE);
    }

    private static void eleventhChangesNothing(Due due) {
        due.sentence("NONE if there are ten");
        Twins.stayAlike(due, "an eleventh cell", x -> {
            addCells(x, 10);
            x.connect(9, 0, 11);
            x.output(0, 0);
            x.output(2, 9);
            x.build();
        }, x -> {
            x.cell(255, true, true);
            x.cell(0, false, true);
            x.connect(10, 0, 10);
            x.output(1, 10 + 4);
            x.fix(10, 3);
        });
    }

    private static void lowEightBits(Due due) {
        due.sentence("with the low eight bits of table");
        for (int bit = 0; bit < 32; bit++) {
            TileArray x = new TileArray();
            x.cell(1 << bit, false, false);
            for (int pin = 0; pin < 3; pin++) {
                x.connect(0, pin, 10 + pin);
            }
            x.output(0, 0);
            for (int row = 0; row < 8; row++) {
                due.is("run(" + row + ") of bit " + bit, x.run(row), row == bit ? 1 : 0);
            }
            TileArray alone = new TileArray();
            alone.cell(1 << bit, false, false);
            alone.build();
            due.is("bits(0) of bit " + bit, alone.bits(0), bit < 8 ? 1L << bit : 0L);
        }
    }

    private static void registerAndFirst(Due due) {
        due.sentence("each with a table, perhaps a register, and what that holds at first");
        for (int kind = 0; kind < 4; kind++) {
            TileArray x = new TileArray();
            x.cell(0, kind % 2 == 1, kind / 2 == 1);
            x.output(3, 0);
            due.is("run(15), kind " + kind, x.run(15), kind == 3 ? 8 : 0);
            x.build();
            due.is("bits() of kind " + kind, x.bits(x.tileOf(0)) & 1023, 256L * kind);
        }
    }

    private static void noSourceAtFirst(Due due) {
        due.sentence("-1 none (at first)");
        for (int row = 0; row < 8; row++) {
            TileArray x = new TileArray();
            x.cell(1 << row, false, false);
            x.output(1, 0);
            // Pins without a source give 0, so that the table is looked up in row 0.
            due.is("run(15) of a cell without sources, row " + row, x.run(15), row == 0 ? 2 : 0);
        }
        TileArray x = new TileArray();
        x.cell(255, false, false);
        due.is("run(15) with outputs without sources", x.run(15), 0);
        x.build();
        due.is("cost() without sources", x.cost(), 0);
    }

    private static void cellsAsSources(Due due) {
        due.sentence("0 .. 9 a cell that is there");
        TileArray x = new TileArray();
        for (int count = 0; count <= 10; count++) {
            for (int source = 0; source < 10; source++) {
                boolean there = source < count;
                due.is("output(2, " + source + ") of " + count, x.output(2, source), there);
                if (count > 0) {
                    due.is("connect(" + (count - 1) + ", 1, " + source + ") of " + count,
                            x.connect(count - 1, 1, source), there);
                }
            }
            x.cell(0b10, true, true);
        }
        TileArray ten = cells(10);
        for (int cell = 0; cell < 10; cell++) {
            ten.connect(cell, 0, cell % 2 == 0 ? 10 : 11);
        }
        for (int source = 0; source < 10; source++) {
            ten.output(3, source);
            due.is("run(1) with output 3 from " + source, ten.run(1), source % 2 == 0 ? 8 : 0);
        }
    }

    private static void inputsAsSources(Due due) {
        due.sentence("10 + i the input i");
        for (int i = 0; i < 4; i++) {
            TileArray x = cells(1);
            due.is("connect(0, 0, " + (10 + i) + ")", x.connect(0, 0, 10 + i), true);
            due.is("output(0, 0)", x.output(0, 0), true);
            due.is("output(1, " + (10 + i) + ")", x.output(1, 10 + i), true);
            for (int other = 0; other < 4; other++) {
                due.is("run() with input " + other, x.run(1 << other), other == i ? 3 : 0);
            }
        }
    }

    private static void noneAsSource(Due due) {
        due.sentence("source -1 takes the source away");
        TileArray x = cells(1);
        x.connect(0, 0, 10);
        x.output(0, 0);
        x.output(3, 10);
        due.is("run(1)", x.run(1), 9);
        due.is("connect(0, 0, -1)", x.connect(0, 0, -1), true);
        due.is("run(1) without the pin's source", x.run(1), 8);
        due.is("output(3, -1)", x.output(3, -1), true);
        due.is("run(1) without the output's source", x.run(1), 0);
        due.is("connect(0, 0, -1) again", x.connect(0, 0, -1), true);
        due.is("output(3, -1) again", x.output(3, -1), true);
    }

    private static void threeCells(TileArray x) {
        addCells(x, 3);
        for (int cell = 0; cell < 3; cell++) {
            for (int pin = 0; pin < 3; pin++) {
                x.connect(cell, pin, 10 + (cell + pin) % 4);
            }
            x.output(cell, cell);
        }
        x.fix(1, 6);
        x.build();
        x.clock(5);
    }

    private static void connectRefusesCells(Due due) {
        due.sentence("connect() is refused with false if there is no such cell");
        int[] none = {LEAST, -3, -2, -1, 3, 4, 9, 10, 11, GREATEST};
        for (int cell : none) {
            TileArray x = cells(3);
            due.is("connect(" + cell + ", 0, 10)", x.connect(cell, 0, 10), false);
            due.is("connect(" + cell + ", 2, -1)", x.connect(cell, 2, -1), false);
        }
        TileArray x = cells(3);
        due.is("connect(0, 0, 10)", x.connect(0, 0, 10), true);
        due.is("connect(2, 0, 10)", x.connect(2, 0, 10), true);
        Twins.stayAlike(due, "connect() of no cell", BoundsCircuitTest::threeCells, twin -> {
            for (int cell : none) {
                twin.connect(cell, 0, 0);
                twin.connect(cell, 2, -1);
            }
        });
    }

    private static void connectRefusesPins(Due due) {
        due.sentence("connect() is refused with false if there is no such pin");
        int[] none = {LEAST, -3, -2, -1, 3, 4, 6, GREATEST};
        for (int cell = 0; cell < 3; cell++) {
            TileArray x = cells(3);
            for (int pin : none) {
                due.is("connect(" + cell + ", " + pin + ", 10)", x.connect(cell, pin, 10), false);
            }
            due.is("connect(" + cell + ", 0, 10)", x.connect(cell, 0, 10), true);
            due.is("connect(" + cell + ", 2, 10)", x.connect(cell, 2, 10), true);
        }
        Twins.stayAlike(due, "connect() of no pin", BoundsCircuitTest::threeCells, twin -> {
            for (int pin : none) {
                twin.connect(0, pin, 13);
                twin.connect(1, pin, 0);
                twin.connect(2, pin, -1);
            }
        });
    }

    private static void connectRefusesSources(Due due) {
        due.sentence("connect() is refused if source is not -1, a cell that is there, or 10 .. 13");
        int[] none = {LEAST, -3, -2, 3, 4, 9, 14, 15, GREATEST};
        int[] some = {-1, 0, 2, 10, 13};
        TileArray x = cells(3);
        for (int source : none) {
            due.is("connect(0, 1, " + source + ")", x.connect(0, 1, source), false);
        }
        for (int source : some) {
            due.is("connect(0, 1, " + source + ")", x.connect(0, 1, source), true);
        }
        Twins.stayAlike(due, "connect() to no source", BoundsCircuitTest::threeCells, twin -> {
            for (int source : none) {
                twin.connect(0, 0, source);
                twin.connect(2, 2, source);
            }
        });
    }

    private static void outputRefusesOutputs(Due due) {
        due.sentence("output() is refused with false if there is no such output");
        int[] none = {LEAST, -2, -1, 4, 5, GREATEST};
        TileArray x = cells(3);
        for (int o : none) {
            due.is("output(" + o + ", 0)", x.output(o, 0), false);
            due.is("output(" + o + ", -1)", x.output(o, -1), false);
        }
        due.is("output(0, 0)", x.output(0, 0), true);
        due.is("output(3, 0)", x.output(3, 0), true);
        Twins.stayAlike(due, "output() of none", BoundsCircuitTest::threeCells, twin -> {
            for (int o : none) {
                twin.output(o, 13);
                twin.output(o, -1);
            }
        });
    }

    private static void outputRefusesSources(Due due) {
        due.sentence("output() is refused if source is not as with connect()");
        int[] none = {LEAST, -3, -2, 3, 4, 9, 14, 15, GREATEST};
        int[] some = {-1, 0, 2, 10, 13};
        TileArray x = cells(3);
        for (int source : none) {
            due.is("output(1, " + source + ")", x.output(1, source), false);
        }
        for (int source : some) {
            due.is("output(1, " + source + ")", x.output(1, source), true);
        }
        Twins.stayAlike(due, "output() from no source", BoundsCircuitTest::threeCells, twin -> {
            for (int source : none) {
                twin.output(0, source);
                twin.output(3, source);
            }
        });
    }

    private static void fixTakesTiles(Due due) {
        due.sentence("the cell is fixed to a tile: 0 .. 15");
        TileArray x = cells(10);
        for (int tile = 0; tile < Grid.TILES; tile++) {
            for (int cell = 0; cell < 10; cell += 9) {
                due.is("fix(" + cell + ", " + tile + ")", x.fix(cell, tile), true);
                x.build();
                due.is("tileOf(" + cell + ")", x.tileOf(cell), tile);
                due.is("fix(" + cell + ", -1)", x.fix(cell, -1), true);
            }
        }
    }

    private static void fixRefusesCells(Due due) {
        due.sentence("fix() is refused with false if there is no such cell");
        int[] none = {LEAST, -2, -1, 3, 4, 9, 10, 11, GREATEST};
        TileArray x = cells(3);
        for (int cell : none) {
            due.is("fix(" + cell + ", 8)", x.fix(cell, 8), false);
            due.is("fix(" + cell + ", -1)", x.fix(cell, -1), false);
        }
        due.is("fix(0, 8), not taken", x.fix(0, 8), true);
        due.is("fix(2, 9)", x.fix(2, 9), true);
        Twins.stayAlike(due, "fix() of no cell", BoundsCircuitTest::threeCells, twin -> {
            for (int cell : none) {
                twin.fix(cell, 15);
                twin.fix(cell, -1);
            }
        });
    }

    private static void fixRefusesTiles(Due due) {
        due.sentence("fix() is refused with false if tile is not -1 .. 15");
        int[] none = {LEAST, -3, -2, 16, 17, GREATEST};
        TileArray x = cells(3);
        for (int cell = 0; cell < 3; cell++) {
            for (int tile : none) {
                due.is("fix(" + cell + ", " + tile + ")", x.fix(cell, tile), false);
            }
            due.is("fix(" + cell + ", -1)", x.fix(cell, -1), true);
            due.is("fix(" + cell + ", 0)", x.fix(cell, 0), true);
            due.is("fix(" + cell + ", 15)", x.fix(cell, 15), true);
            x.fix(cell, -1);
        }
        Twins.stayAlike(due, "fix() to no tile", BoundsCircuitTest::threeCells, twin -> {
            for (int tile : none) {
                twin.fix(0, tile);
                twin.fix(1, tile);
            }
        });
    }

    private static void fixRefusesTaken(Due due) {
        due.sentence("fix() is refused with false if another cell is fixed to the tile");
        TileArray x = cells(10);
        x.fix(0, 15);
        x.fix(4, 0);
        x.fix(9, 7);
        int[][] taken = {{9, 15}, {4, 15}, {0, 0}, {9, 0}, {0, 7}, {4, 7}, {1, 15}, {8, 7}};
        for (int[] fix : taken) {
            due.is("fix(" + fix[0] + ", " + fix[1] + "), taken", x.fix(fix[0], fix[1]), false);
        }
        int[][] own = {{0, 15}, {4, 0}, {9, 7}};
        for (int[] fix : own) {
            due.is("fix(" + fix[0] + ", " + fix[1] + "), its own", x.fix(fix[0], fix[1]), true);
        }
        x.build();
        for (int[] fix : own) {
            due.is("tileOf(" + fix[0] + "), as before", x.tileOf(fix[0]), fix[1]);
        }
        // A tile is taken by who is fixed to it, not by who was built on it.
        int built = x.tileOf(1);
        due.is("fix(0, " + built + "), where cell 1 was built", x.fix(0, built), true);
        Twins.stayAlike(due, "fix() to a taken tile", twin -> {
            threeCells(twin);
            twin.fix(0, 12);
        }, twin -> {
            twin.fix(0, 6);
            twin.fix(2, 6);
            twin.fix(1, 12);
            twin.fix(2, 12);
        });
    }

    private static void fixNoMore(Due due) {
        due.sentence("or, with -1, to none any more");
        TileArray x = cells(2);
        x.fix(0, 15);
        due.is("fix(0, -1)", x.fix(0, -1), true);
        due.is("fix(0, -1) again", x.fix(0, -1), true);
        due.is("fix(1, -1), as cell 0", x.fix(1, -1), true);
        x.build();
        due.is("tileOf(0), free", x.tileOf(0), 0);
        due.is("tileOf(1), free", x.tileOf(1), 1);
        due.is("fix(1, 15), left by cell 0", x.fix(1, 15), true);
        due.is("fix(1, 14), moved", x.fix(1, 14), true);
        due.is("fix(0, 15), left by cell 1", x.fix(0, 15), true);
        x.build();
        due.is("tileOf(0)", x.tileOf(0), 15);
        due.is("tileOf(1)", x.tileOf(1), 14);
    }

    /** Each cell is the source of the next, by this pin; the last one is left open. */
    private static TileArray chain(int length, int pin) {
        TileArray x = cells(length);
        for (int cell = 1; cell < length; cell++) {
            x.connect(cell, pin, cell - 1);
        }
        return x;
    }

    private static void ringsOfAllLengths(Due due) {
        due.sentence("each is a source of the next, and the last of the first");
        for (int length = 1; length <= 10; length++) {
            for (int pin = 0; pin < 3; pin++) {
                TileArray x = chain(length, pin);
                String of = " of " + length + " cells by pin " + pin;
                due.is("run(0) of a chain" + of, x.run(0), 0);
                x.connect(0, pin, length - 1);
                due.is("run(0) of a ring" + of, x.run(0), TileArray.RING);
                due.is("build() of a ring" + of, x.build(), TileArray.RING);
                x.connect(0, pin, 13);
                due.is("run(0) of a ring opened" + of, x.run(0), 0);
                due.is("build() of a ring opened" + of, x.build() > 0, true);
            }
        }
    }

    private static void registersOpenRings(Due due) {
        due.sentence("cells without registers");
        for (int length = 1; length <= 10; length++) {
            for (int with = 0; with < length; with++) {
                TileArray x = new TileArray();
                for (int cell = 0; cell < length; cell++) {
                    x.cell(0b10, cell == with, true);
                }
                for (int cell = 0; cell < length; cell++) {
                    x.connect(cell, cell % 3, (cell + 1) % length);
                }
                String of = " of " + length + " cells, a register in cell " + with;
                due.is("run(0) of a ring" + of, x.run(0), 0);
                due.is("build() of a ring" + of, x.build() > 0, true);
            }
        }
    }

    private static void ringAnywhere(Due due) {
        due.sentence("cells can be found: whatever else there is");
        for (int self = 0; self < 10; self++) {
            TileArray x = new TileArray();
            for (int cell = 0; cell < 10; cell++) {
                x.cell(0b10, cell % 3 == 0 && cell != self, false);
            }
            x.connect(self, 1, self);
            due.is("run(0), cell " + self + " is a source of itself", x.run(0), TileArray.RING);
            due.is("build(), cell " + self + " is its source", x.build(), TileArray.RING);
        }
        // A chain leads into the ring of cells 4 and 5, and one out of it to the output.
        TileArray x = chain(10, 0);
        x.connect(4, 2, 5);
        x.output(0, 9);
        due.is("run(0), the ring in the middle of a chain", x.run(0), TileArray.RING);
        due.is("build(), the ring in the middle of a chain", x.build(), TileArray.RING);
    }

    private static void noRings(Due due) {
        due.sentence("no ring: sources that come together, and cells that feed a register alone");
        TileArray x = cells(4);
        x.connect(0, 0, 1);
        x.connect(0, 1, 2);
        x.connect(0, 2, 3);
        x.connect(1, 0, 3);
        x.connect(1, 1, 3);
        x.connect(2, 2, 3);
        due.is("run(0) of two ways from cell 3 to cell 0", x.run(0), 0);
        due.is("build() of two ways", x.build() > 0, true);
        TileArray y = new TileArray();
        y.cell(0b10, true, false);
        y.cell(0b10, false, false);
        y.connect(0, 0, 0);
        y.connect(0, 1, 1);
        y.connect(1, 0, 0);
        due.is("run(0) of a register that feeds itself", y.run(0), 0);
        due.is("build() of a register that feeds itself", y.build() > 0, true);
    }
}
