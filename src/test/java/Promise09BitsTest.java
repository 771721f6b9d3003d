/** Promise 9: bits. */
public final class Promise09BitsTest {
    public static void main(String[] args) {
        Due due = new Due("Promise09BitsTest");
        TileArray x = new TileArray();
        for (int tile = 0; tile < 16; tile++) {
            x.load(tile, Due.table(tile + 1) | Due.channel(7, tile % 5));
        }
        for (int tile = 0; tile < 16; tile++) {
            due.is("bits(" + tile + ")", x.bits(tile),
                    Due.table(tile + 1) | Due.channel(7, tile % 5));
        }
        int[] noTiles = {-1, -2, 16, 17, Integer.MAX_VALUE, Integer.MIN_VALUE};
        for (int tile : noTiles) {
            due.is("bits(" + tile + ")", x.bits(tile), 0L);
        }
        due.end();
    }
}
