/**
 * Two objects made by the same calls, of which one gets further calls that are refused: nothing
 * may have changed, so that from then on both must answer alike.
 */
final class Twins {
    /** Some calls on an object. */
    interface Calls {
        void on(TileArray x);
    }

    private Twins() {
    }

    static void stayAlike(Due due, String what, Calls made, Calls refused) {
        stayAlike(due, what, made, refused, x -> { });
    }

    /** With calls that come behind, so that what was kept from sight is seen, too. */
    static void stayAlike(Due due, String what, Calls made, Calls refused, Calls behind) {
        TileArray x = new TileArray();
        TileArray y = new TileArray();
        made.on(x);
        made.on(y);
        refused.on(x);
        due.is(what + ", what is to be seen", seen(x), seen(y));
        behind.on(x);
        behind.on(y);
        due.is(what + ", how it runs", running(x), running(y));
        due.is(what + ", what is built", built(x), built(y));
        due.is(what + ", how that runs", running(x), running(y));
        x.reset();
        y.reset();
        due.is(what + ", how it runs behind reset()", running(x), running(y));
        due.is(what + ", the next cell", x.cell(0, true, true), y.cell(0, true, true));
    }

    /** What the calls answer that change nothing. */
    static String seen(TileArray x) {
        StringBuilder text = new StringBuilder();
        for (int cell = 0; cell < 10; cell++) {
            text.append(x.tileOf(cell)).append(' ');
        }
        text.append("cost ").append(x.cost()).append(" sum ").append(x.checkSum());
        for (int tile = 0; tile < Grid.TILES; tile++) {
            text.append('\n').append(tile).append(": ").append(x.bits(tile));
            for (int pin = 0; pin < 3; pin++) {
                text.append(' ').append(x.pin(tile, pin)).append('/').append(x.channels(tile, pin));
            }
        }
        for (int o = 0; o < 4; o++) {
            text.append(" o").append(o).append(' ').append(x.outputOf(o));
        }
        return text.append(" longest ").append(x.longest()).toString();
    }

    private static String running(TileArray x) {
        StringBuilder text = new StringBuilder();
        for (int inputs = 0; inputs < 5; inputs++) {
            text.append(x.clock(inputs * 3)).append(' ').append(x.run(inputs * 3)).append(' ');
        }
        return text.toString();
    }

    private static String built(TileArray x) {
        StringBuilder text = new StringBuilder().append(x.build()).append(' ').append(x.cost());
        for (int cell = 0; cell < 10; cell++) {
            text.append(' ').append(x.tileOf(cell));
        }
        return text.append(' ').append(x.checkSum()).toString();
    }
}
