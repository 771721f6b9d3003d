/** Promise 14: channels. */
public final class Promise14ChannelsTest {
    public static void main(String[] args) {
        Due due = new Due("Promise14ChannelsTest");
        lengths(due);
        throughAllTiles(due);
        edges(due);
        due.end();
    }

    private static void lengths(Due due) {
        TileArray x = new TileArray();
        x.load(0, Due.pin(0, Due.from(Due.WEST)) | Due.pin(1, 1) | Due.channel(Due.EAST, 3));
        due.is("channels(0, 0), from the input", x.channels(0, 0), 0);
        due.is("channels(0, 1), from its outlet", x.channels(0, 1), 0);
        for (int column = 1; column < 4; column++) {
            x.load(column, Due.pin(2, Due.from(Due.WEST)) | Due.channel(Due.EAST, 3));
            due.is("channels(" + column + ", 2)", x.channels(column, 2), column);
        }
        x.load(0, 0);
        due.is("channels(3, 2), from nothing", x.channels(3, 2), 0);
        due.is("pin(3, 2), from nothing", x.pin(3, 2), TileArray.NONE);
    }

    /** Input 0 goes along row 0, back along row 1, along row 2, and back along row 3. */
    private static void throughAllTiles(Due due) {
        TileArray x = new TileArray();
        int[] eastward = {0, 1, 2, 9, 10};
        int[] westward = {6, 5, 14, 13};
        for (int tile : eastward) {
            x.load(tile, Due.channel(Due.EAST, 3));
        }
        for (int tile : westward) {
            x.load(tile, Due.channel(Due.WEST, 3));
        }
        x.load(3, Due.channel(Due.SOUTH, 2));
        x.load(7, Due.channel(Due.WEST, 2));
        x.load(4, Due.channel(Due.SOUTH, 4));
        x.load(8, Due.channel(Due.EAST, 4));
        x.load(11, Due.channel(Due.SOUTH, 2));
        x.load(15, Due.channel(Due.WEST, 2));
        x.load(12, Due.pin(0, Due.from(Due.EAST)));
        due.is("pin(12, 0)", x.pin(12, 0), 16);
        due.is("channels(12, 0)", x.channels(12, 0), 15);
    }

    private static void edges(Due due) {
        TileArray x = new TileArray();
        for (int tile = 0; tile < 16; tile++) {
            x.load(tile, Due.channel(Due.EAST, 1) | Due.pin(0, Due.from(Due.WEST))
                    | Due.pin(2, Due.from(Due.WEST)));
        }
        due.is("channels(5, 0)", x.channels(5, 0), 1);
        due.is("channels(5, 1), switched to nothing", x.channels(5, 1), 0);
        int[] noTiles = {-1, 16, Integer.MAX_VALUE, Integer.MIN_VALUE};
        for (int tile : noTiles) {
            due.is("channels(" + tile + ", 0)", x.channels(tile, 0), 0);
        }
        int[] noPins = {-1, 3, 6, Integer.MAX_VALUE, Integer.MIN_VALUE};
        for (int pin : noPins) {
            due.is("channels(5, " + pin + ")", x.channels(5, pin), 0);
        }
    }
}
