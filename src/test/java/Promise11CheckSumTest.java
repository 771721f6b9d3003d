/** Promise 11: checkSum; the sums were found by long division of the whole row of bits. */
public final class Promise11CheckSumTest {
    public static void main(String[] args) {
        Due due = new Due("Promise11CheckSumTest");
        TileArray x = new TileArray();
        due.is("checkSum() of all 0", x.checkSum(), 35372);
        x.load(0, 1);
        due.is("checkSum()", x.checkSum(), 50481);
        x.load(1, 2);
        x.load(7, 0x155);
        due.is("checkSum()", x.checkSum(), 16007);
        due.is("checkSum() again", x.checkSum(), 16007);
        due.is("checkSum() of the last tile's highest bit", ofOne(15, 1L << 45), 51880);
        due.is("checkSum() of the last tile's lowest bit", ofOne(15, 1), 24076);
        due.is("checkSum() of a table and a register", ofOne(0, 511), 37442);
        due.end();
    }

    private static int ofOne(int tile, long bits) {
        TileArray x = new TileArray();
        x.load(tile, bits);
        return x.checkSum();
    }
}
