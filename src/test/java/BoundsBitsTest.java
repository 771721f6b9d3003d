import java.math.BigInteger;

/** Promises 9 to 11: tiles that are none, bits that are none, and the sum over all bits. */
public final class BoundsBitsTest {
    private static final int[] NO_TILES = {
        Integer.MIN_VALUE, -17, -16, -2, -1, 16, 17, 31, 32, Integer.MAX_VALUE,
    };

    public static void main(String[] args) {
        Due due = new Due("BoundsBitsTest");
        bitsOfNoTile(due);
        loadTakesAllTiles(due);
        loadRefusesTiles(due);
        leastAndMost(due);
        aboveTheMost(due);
        pinsAboveNine(due);
        channelsAboveFour(due);
        refusedLoadChangesNothing(due);
        sumAtTheBeginning(due);
        sumOfEachBit(due);
        sumHasSixteenBits(due);
        due.end();
    }

    private static long most() {
        return 1023 | Due.pin(0, 9) | Due.pin(1, 9) | Due.pin(2, 9) | Grid.allChannels(4);
    }

    private static TileArray full() {
        TileArray x = new TileArray();
        for (int tile = 0; tile < Grid.TILES; tile++) {
            x.load(tile, most());
        }
        return x;
    }

    private static void bitsOfNoTile(Due due) {
        due.sentence("bits(): 0 if there is no such tile");
        TileArray x = full();
        for (int tile : NO_TILES) {
            due.is("bits(" + tile + ")", x.bits(tile), 0L);
        }
        due.is("bits(0)", x.bits(0), most());
        due.is("bits(15)", x.bits(15), most());
    }

    private static void loadTakesAllTiles(Due due) {
        due.sentence("the bits of a tile become bits: true");
        TileArray x = new TileArray();
        for (int tile = 0; tile < Grid.TILES; tile++) {
            due.is("load(" + tile + ", ..)", x.load(tile, most() - tile), true);
            for (int other = 0; other < Grid.TILES; other++) {
                due.is("bits(" + other + ")", x.bits(other), other <= tile ? most() - other : 0L);
            }
        }
    }

    private static void loadRefusesTiles(Due due) {
        due.sentence("load() is refused with false if there is no such tile");
        TileArray x = full();
        for (int tile : NO_TILES) {
            due.is("load(" + tile + ", 0)", x.load(tile, 0), false);
            due.is("load(" + tile + ", 1)", x.load(tile, 1), false);
        }
        for (int tile = 0; tile < Grid.TILES; tile++) {
            due.is("bits(" + tile + "), as before", x.bits(tile), most());
        }
    }

    private static void leastAndMost(Due due) {
        due.sentence("bits 0, and the most with pins at 9 and channels at 4");
        TileArray x = new TileArray();
        for (int tile = 0; tile < Grid.TILES; tile += 15) {
            due.is("load(" + tile + ", the most)", x.load(tile, most()), true);
            due.is("bits(" + tile + ")", x.bits(tile), most());
            due.is("load(" + tile + ", 0)", x.load(tile, 0), true);
            due.is("bits(" + tile + ")", x.bits(tile), 0L);
        }
        due.is("load(0, 2^46 - 1): its switches are above 9 and 4", x.load(0, (1L << 46) - 1),
                false);
        due.is("load(0, -1)", x.load(0, -1), false);
        due.is("bits(0)", x.bits(0), 0L);
    }

    /** The switches in the low bits are such as can be: it is the bits above that are too much. */
    private static void aboveTheMost(Due due) {
        due.sentence("refused with false if bits is not 0 .. 2^46 - 1");
        TileArray x = new TileArray();
        x.load(2, 77);
        for (int bit = 46; bit < 64; bit++) {
            due.is("load(2, bit " + bit + ")", x.load(2, 1L << bit), false);
            due.is("load(2, bit " + bit + " and more)", x.load(2, 1L << bit | most()), false);
            due.is("load(2, all from bit " + bit + " on)", x.load(2, -1L << bit), false);
        }
        due.is("load(2, the least)", x.load(2, Long.MIN_VALUE), false);
        due.is("load(2, the greatest)", x.load(2, Long.MAX_VALUE), false);
        due.is("bits(2), as before", x.bits(2), 77L);
        due.is("load(2, bit 45)", x.load(2, 1L << 45), true);
    }

    private static void pinsAboveNine(Due due) {
        due.sentence("refused with false if a pin's switch is above 9");
        for (int pin = 0; pin < 3; pin++) {
            for (int setting = 0; setting < 16; setting++) {
                TileArray x = new TileArray();
                x.load(11, 99);
                long others = most() & ~Due.pin(pin, 15);
                boolean can = setting <= 9;
                long alone = Due.pin(pin, setting);
                String call = "load(11, pin " + pin + " at " + setting;
                due.is(call + ")", x.load(11, alone), can);
                due.is("bits(11)", x.bits(11), can ? alone : 99L);
                due.is(call + " beside others)", x.load(11, alone | others), can);
                due.is("bits(11)", x.bits(11), can ? alone | others : 99L);
            }
        }
    }

    private static void channelsAboveFour(Due due) {
        due.sentence("refused with false if a channel's switch is above 4");
        for (int place = 0; place < Grid.PLACES; place++) {
            for (int setting = 0; setting < 8; setting++) {
                TileArray x = new TileArray();
                x.load(11, 99);
                long others = most() & ~Due.channel(place, 7);
                boolean can = setting <= 4;
                long alone = Due.channel(place, setting);
                String call = "load(11, channel " + place + " at " + setting;
                due.is(call + ")", x.load(11, alone), can);
                due.is("bits(11)", x.bits(11), can ? alone : 99L);
                due.is(call + " beside others)", x.load(11, alone | others), can);
                due.is("bits(11)", x.bits(11), can ? alone | others : 99L);
            }
        }
    }

    /** Tile 3 holds 1 in a register that is 0 at first; tile 7 gives 1 and keeps that. */
    private static void refusedLoadChangesNothing(Due due) {
        due.sentence("a load() that is refused changes nothing, what the outlets give included");
        long keep = 0b10 | Due.pin(0, 1) | Due.channel(Due.EAST, 1);
        Twins.stayAlike(due, "a refused load()", x -> {
            x.cell(0b01, true, false);
            x.connect(0, 0, 0);
            x.output(2, 0);
            x.build();
            x.reset();
            x.load(3, 255 | Due.register(false) | Due.channel(Due.EAST, 1));
            x.load(7, 255 | Due.channel(Due.EAST, 1));
            x.clock(0);
            x.run(0);
            x.load(3, keep | Due.register(false));
            x.load(7, keep);
        }, x -> {
            for (int tile = 3; tile <= 7; tile += 4) {
                x.load(tile, -1);
                x.load(tile, 1L << 46);
                x.load(tile, Due.register(true) | Due.pin(1, 10));
                x.load(tile, Due.pin(1, 10));
                x.load(tile, Due.register(true) | Due.channel(0, 5));
                x.load(tile, Due.channel(0, 5));
            }
            x.load(-1, 0);
            x.load(16, 256);
        });
        TileArray x = new TileArray();
        x.load(3, 255 | Due.channel(Due.EAST, 1));
        x.clock(0);
        x.load(3, keep);
        x.load(3, keep | Due.register(true) | 1L << 46);
        due.is("clock(0), what tile 3 gave", x.clock(0), 1);
    }

    /**
     * The sum by long division of polynomials over 0 and 1: all bits behind one another, the first
     * sixteen of them and of sixteen more at the end turned over as 0xffff says, by 0x11021.
     */
    private static int divided(TileArray x) {
        BigInteger row = BigInteger.ZERO;
        for (int tile = 0; tile < Grid.TILES; tile++) {
            for (int bit = 0; bit < 48; bit++) {
                row = row.shiftLeft(1).or(BigInteger.valueOf(x.bits(tile) >> bit & 1));
            }
        }
        int length = 48 * Grid.TILES;
        BigInteger rest = row.shiftLeft(16).xor(BigInteger.valueOf(0xffff).shiftLeft(length));
        BigInteger by = BigInteger.valueOf(0x11021);
        while (rest.bitLength() > 16) {
            rest = rest.xor(by.shiftLeft(rest.bitLength() - 17));
        }
        return rest.intValueExact();
    }

    private static void sumAtTheBeginning(Due due) {
        due.sentence("checkSum(): at the beginning it is 0xffff");
        TileArray x = new TileArray();
        due.is("checkSum() of all 0", x.checkSum(), 35372);
        due.is("the same by division", divided(x), 35372);
        due.is("checkSum() of all the most", full().checkSum(), divided(full()));
    }

    private static void sumOfEachBit(Due due) {
        due.sentence("over the bits of all tiles, tile 0 first, of each 48 bits, the lowest first");
        for (int tile = 0; tile < Grid.TILES; tile++) {
            for (int bit = 0; bit < 46; bit++) {
                TileArray x = new TileArray();
                x.load(tile, 1L << bit);
                due.is("checkSum() of bit " + bit + " of tile " + tile, x.checkSum(), divided(x));
            }
        }
        TileArray built = Drawn.circuit("@13 0.0=13 0.1=12 0.2=11");
        built.build();
        due.is("checkSum() behind build()", built.checkSum(), 41478);
        due.is("the same by division", divided(built), 41478);
    }

    private static void sumHasSixteenBits(Due due) {
        due.sentence("the sum is shifted left by 1, to 16 bits");
        int least = 0xffff;
        int greatest = 0;
        for (int i = 0; i < 200; i++) {
            TileArray x = new TileArray();
            x.load(i % 16, i * 5 & 1023);
            int sum = x.checkSum();
            due.is("checkSum() number " + i + " has 16 bits", sum >= 0 && sum <= 0xffff, true);
            least = Math.min(least, sum);
            greatest = Math.max(greatest, sum);
        }
        due.is("sums have the highest bit, or have it not", least < 0x8000 && greatest > 0x7fff,
                true);
    }
}
