/** Promise 10: load. */
public final class Promise10LoadTest {
    public static void main(String[] args) {
        Due due = new Due("Promise10LoadTest");
        legal(due);
        noTile(due);
        illegal(due);
        circuitStays(due);
        due.end();
    }

    private static void legal(Due due) {
        TileArray x = new TileArray();
        long most = 1023;
        for (int pin = 0; pin < 3; pin++) {
            most |= Due.pin(pin, 9);
        }
        for (int place = 0; place < 8; place++) {
            most |= Due.channel(place, 4);
        }
        due.is("load(0, the most)", x.load(0, most), true);
        due.is("bits(0)", x.bits(0), most);
        due.is("load(15, the most)", x.load(15, most), true);
        due.is("load(0, 0)", x.load(0, 0), true);
        due.is("bits(0)", x.bits(0), 0L);
        due.is("bits(15)", x.bits(15), most);
        for (int setting = 0; setting <= 9; setting++) {
            long bits = Due.pin(setting % 3, setting);
            due.is("load(3, " + bits + ")", x.load(3, bits), true);
            due.is("bits(3)", x.bits(3), bits);
        }
    }

    private static void noTile(Due due) {
        TileArray x = new TileArray();
        int[] noTiles = {-1, 16, 17, Integer.MAX_VALUE, Integer.MIN_VALUE};
        for (int tile : noTiles) {
            due.is("load(" + tile + ", 0)", x.load(tile, 0), false);
        }
    }

    private static void illegal(Due due) {
        TileArray x = new TileArray();
        x.load(4, 99);
        refuses(due, x, -1);
        refuses(due, x, Long.MIN_VALUE);
        refuses(due, x, Long.MAX_VALUE);
        refuses(due, x, 1L << 46);
        refuses(due, x, (1L << 46) - 1);
        refuses(due, x, 1L << 47);
        refuses(due, x, 1L << 62);
        for (int setting = 10; setting <= 15; setting++) {
            for (int pin = 0; pin < 3; pin++) {
                refuses(due, x, Due.pin(pin, setting));
            }
        }
        for (int setting = 5; setting <= 7; setting++) {
            for (int place = 0; place < 8; place++) {
                refuses(due, x, Due.channel(place, setting));
            }
        }
    }

    private static void refuses(Due due, TileArray x, long bits) {
        due.is("load(4, " + bits + ")", x.load(4, bits), false);
        due.is("bits(4), as before", x.bits(4), 99L);
    }

    private static void circuitStays(Due due) {
        TileArray x = new TileArray();
        x.cell(255, false, false);
        x.output(0, 0);
        x.build();
        int cost = x.cost();
        int tile = x.tileOf(0);
        due.is("outputOf(0)", x.outputOf(0), tile);
        x.load(tile, 0);
        due.is("outputOf(0) behind load()", x.outputOf(0), TileArray.NONE);
        due.is("cost() behind load()", x.cost(), cost);
        due.is("tileOf(0) behind load()", x.tileOf(0), tile);
        due.is("run(0) behind load()", x.run(0), 1);
    }
}
