/** Promise 4: output. */
public final class Promise04OutputTest {
    private static final int EXTREME = Integer.MAX_VALUE;

    public static void main(String[] args) {
        Due due = new Due("Promise04OutputTest");
        becomesTheSource(due);
        refused(due);
        due.end();
    }

    private static void becomesTheSource(Due due) {
        TileArray x = new TileArray();
        for (int o = 0; o < 4; o++) {
            due.is("output(" + o + ", ..)", x.output(o, 13 - o), true);
        }
        due.is("run(1)", x.run(1), 8);
        due.is("run(2)", x.run(2), 4);
        due.is("run(4)", x.run(4), 2);
        due.is("run(8)", x.run(8), 1);
        x.cell(255, false, false);
        due.is("output(2, 0)", x.output(2, 0), true);
        due.is("run(0)", x.run(0), 4);
        due.is("output(2, -1)", x.output(2, -1), true);
        due.is("run(0)", x.run(0), 0);
        due.is("output(0, 12)", x.output(0, 12), true);
        due.is("run(4)", x.run(4), 3);
    }

    private static void refused(Due due) {
        TileArray x = new TileArray();
        due.is("output(0, 0) without cells", x.output(0, 0), false);
        x.cell(255, false, false);
        x.output(0, 0);
        int[] noOutputs = {-1, 4, 5, EXTREME, -EXTREME - 1};
        for (int o : noOutputs) {
            due.is("output(" + o + ", 0)", x.output(o, 0), false);
        }
        int[] noSources = {-2, -3, 1, 9, 14, 15, EXTREME, -EXTREME - 1};
        for (int source : noSources) {
            due.is("output(0, " + source + ")", x.output(0, source), false);
        }
        due.is("run(0), as before", x.run(0), 1);
    }
}
