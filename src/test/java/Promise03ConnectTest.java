/** Promise 3: connect. */
public final class Promise03ConnectTest {
    private static final int EXTREME = Integer.MAX_VALUE;

    public static void main(String[] args) {
        Due due = new Due("Promise03ConnectTest");
        becomesTheSource(due);
        refused(due);
        refusedChangesNothing(due);
        due.end();
    }

    private static void becomesTheSource(Due due) {
        TileArray x = new TileArray();
        x.cell(0b10000000, false, false);
        x.cell(255, false, false);
        x.output(0, 0);
        due.is("connect(0, 0, 10)", x.connect(0, 0, 10), true);
        due.is("connect(0, 1, 13)", x.connect(0, 1, 13), true);
        due.is("connect(0, 2, 1)", x.connect(0, 2, 1), true);
        due.is("run(9)", x.run(9), 1);
        due.is("run(8)", x.run(8), 0);
        due.is("run(1)", x.run(1), 0);
        due.is("connect(0, 0, 11)", x.connect(0, 0, 11), true);
        due.is("run(9)", x.run(9), 0);
        due.is("run(10)", x.run(10), 1);
        due.is("connect(0, 2, -1)", x.connect(0, 2, -1), true);
        due.is("run(10)", x.run(10), 0);
        due.is("connect(0, 2, 12)", x.connect(0, 2, 12), true);
        due.is("run(14)", x.run(14), 1);
        due.is("connect(0, 0, 0), a ring", x.connect(0, 0, 0), true);
        due.is("run(14)", x.run(14), TileArray.RING);
    }

    private static void refused(Due due) {
        TileArray x = new TileArray();
        due.is("connect(0, 0, -1) without cells", x.connect(0, 0, -1), false);
        x.cell(1, false, false);
        x.cell(1, false, false);
        int[] noCells = {-1, -2, 2, 9, 10, EXTREME, -EXTREME - 1};
        for (int cell : noCells) {
            due.is("connect(" + cell + ", 0, 10)", x.connect(cell, 0, 10), false);
        }
        int[] noPins = {-1, 3, 4, EXTREME, -EXTREME - 1};
        for (int pin : noPins) {
            due.is("connect(0, " + pin + ", 10)", x.connect(0, pin, 10), false);
        }
        int[] noSources = {-2, -3, 2, 9, 14, 15, 34, EXTREME, -EXTREME - 1};
        for (int source : noSources) {
            due.is("connect(0, 0, " + source + ")", x.connect(0, 0, source), false);
        }
        due.is("connect(1, 2, 1)", x.connect(1, 2, 1), true);
    }

    private static void refusedChangesNothing(Due due) {
        TileArray x = new TileArray();
        x.cell(0b10, false, false);
        x.cell(0b10, false, false);
        x.output(0, 0);
        x.output(1, 1);
        x.connect(0, 0, 10);
        x.connect(1, 0, 11);
        x.connect(0, 0, 5);
        x.connect(0, 3, 12);
        x.connect(1, -1, 12);
        x.connect(2, 0, 12);
        due.is("run(1)", x.run(1), 1);
        due.is("run(2)", x.run(2), 2);
        due.is("run(4)", x.run(4), 0);
    }
}
