/** Calls with arguments far off, in several states: nothing may be thrown, all must end. */
public final class ExtremeArgumentsTest {
    private static final int[] FAR_OFF = {
        Integer.MIN_VALUE, Integer.MIN_VALUE + 1, -65536, -17, -3, -2, -1, 0, 1, 2, 3, 4, 9, 10, 13,
        14, 15, 16, 17, 34, 48, 52, 144, 148, 1 << 16, 715827883, 1431655766, 1 << 30,
        Integer.MAX_VALUE - 1, Integer.MAX_VALUE,
    };

    public static void main(String[] args) {
        Due due = new Due("ExtremeArgumentsTest");
        for (int state = 0; state < 4; state++) {
            for (int a : FAR_OFF) {
                due.is("state " + state + ", argument " + a, callAll(state, a), true);
            }
        }
        due.end();
    }

    private static boolean callAll(int state, int a) {
        TileArray x = made(state);
        try {
            x.cell(a, true, true);
            for (int b : FAR_OFF) {
                x.connect(a, b, b);
                x.connect(0, b, a);
                x.output(a, b);
                x.fix(a, b);
                x.pin(a, b);
                x.channels(a, b);
                x.load(a, b);
                x.load(b, (long) a << 32 | b);
            }
            x.build();
            x.tileOf(a);
            x.bits(a);
            x.outputOf(a);
            x.clock(a);
            x.run(a);
            x.slack(a);
            x.reset();
            x.checkSum();
            x.longest();
            x.build();
            x.clock(a);
            return true;
        } catch (RuntimeException thrown) {
            thrown.printStackTrace(System.out);
            return false;
        }
    }

    private static TileArray made(int state) {
        TileArray x = new TileArray();
        for (int cell = 0; cell < 4 * state; cell++) {
            x.cell(150, cell % 2 == 0, false);
            x.connect(cell, 0, cell - 1);
            x.output(cell % 4, cell);
        }
        if (state > 1) {
            x.build();
        }
        return x;
    }
}
