/** Promise 17: reset, and what the outlets give without it. */
public final class Promise17ResetTest {
    /** Tile 3 gives its own outlet to its pin 0, and to output 0. */
    private static final long SELF = Due.pin(0, 1) | Due.channel(Due.EAST, 1);
    private static final long HOLD = SELF | 0b10;

    public static void main(String[] args) {
        Due due = new Due("Promise17ResetTest");
        registersOfArray(due);
        registersOfCircuit(due);
        outletsWithoutRegister(due);
        registerComesAndGoes(due);
        behindBuild(due);
        due.end();
    }

    private static void registersOfArray(Due due) {
        TileArray x = new TileArray();
        x.load(3, HOLD | Due.register(true));
        due.is("clock(0) before reset()", x.clock(0), 0);
        x.reset();
        due.is("clock(0) behind reset()", x.clock(0), 1);
        due.is("clock(0) again", x.clock(0), 1);
        x.load(3, HOLD | Due.register(false));
        due.is("clock(0) behind load(), as it was", x.clock(0), 1);
        x.reset();
        due.is("clock(0) behind reset() to 0", x.clock(0), 0);
    }

    private static void registersOfCircuit(Due due) {
        TileArray x = new TileArray();
        x.cell(0b01, true, true);
        x.connect(0, 0, 10);
        x.output(0, 0);
        due.is("run(1) of a new cell", x.run(1), 1);
        due.is("run(1)", x.run(1), 0);
        x.reset();
        due.is("run(0) behind reset()", x.run(0), 1);
        due.is("run(0)", x.run(0), 1);
        x.cell(0, true, false);
        x.connect(1, 0, 0);
        x.output(1, 1);
        x.reset();
        due.is("run(1) behind reset()", x.run(1), 1);
    }

    private static void outletsWithoutRegister(Due due) {
        TileArray x = new TileArray();
        x.load(3, HOLD);
        due.is("clock(0), 0 in the beginning", x.clock(0), 0);
        x.load(3, SELF | 255);
        due.is("clock(0), set", x.clock(0), 1);
        x.load(3, HOLD);
        due.is("clock(0), held behind load()", x.clock(0), 1);
        x.load(3, HOLD | 512);
        due.is("clock(0), held whatever is first", x.clock(0), 1);
        x.reset();
        due.is("clock(0) behind reset()", x.clock(0), 0);
        x.load(3, SELF | 255 | 512);
        x.reset();
        x.load(3, HOLD | 512);
        due.is("clock(0): what is first does not count without a register", x.clock(0), 0);
    }

    private static void registerComesAndGoes(Due due) {
        TileArray x = new TileArray();
        x.load(3, SELF | 255);
        x.clock(0);
        x.load(3, HOLD | Due.register(true));
        due.is("clock(0), a register has come", x.clock(0), 0);
        x.reset();
        due.is("clock(0), it holds 1", x.clock(0), 1);
        x.load(3, HOLD);
        due.is("clock(0), it has gone", x.clock(0), 0);
        x.load(3, HOLD | Due.register(true));
        x.reset();
        x.load(3, HOLD);
        x.load(3, HOLD | Due.register(true));
        due.is("clock(0), gone and come again", x.clock(0), 0);
    }

    private static void behindBuild(Due due) {
        TileArray x = new TileArray();
        x.cell(0b10, true, true);
        x.fix(0, 3);
        x.connect(0, 0, 0);
        x.output(0, 0);
        x.build();
        due.is("clock(0) behind build(), 0 still", x.clock(0), 0);
        x.reset();
        due.is("clock(0) behind reset()", x.clock(0), 1);
        x.build();
        due.is("clock(0) behind build(), as it was", x.clock(0), 1);
        x.fix(0, 2);
        x.build();
        x.load(3, HOLD | Due.register(true));
        due.is("clock(0): build() took the register and with it the 1", x.clock(0), 0);
    }
}
