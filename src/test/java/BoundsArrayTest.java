/** The heads "The array", "Switches" and "The bits": every edge, every setting, every field. */
public final class BoundsArrayTest {
    public static void main(String[] args) {
        Due due = new Due("BoundsArrayTest");
        directions(due);
        edges(due);
        inputs(due);
        inputsNowhereElse(due);
        outputs(due);
        channelSettings(due);
        pinSettings(due);
        nothingComesIn(due);
        pinFields(due);
        channelFields(due);
        tableRows(due);
        registerAndFirstBits(due);
        fortySixBits(due);
        allZeroAtFirst(due);
        due.end();
    }

    private static void directions(Due due) {
        due.sentence("what comes IN to tile t is the channel of its neighbour that leads to t");
        for (int tile = 0; tile < Grid.TILES; tile++) {
            for (int place = 0; place < Grid.PLACES; place++) {
                int other = Grid.beside(tile, place / 2);
                if (other != Grid.NOTHING) {
                    oneNeighbour(due, tile, place, other);
                }
            }
        }
    }

    private static void oneNeighbour(Due due, int tile, int place, int other) {
        String call = "pin(" + tile + ", 1) from place " + place;
        int there = Grid.opposite(place);
        TileArray x = new TileArray();
        x.load(tile, Due.pin(1, Due.from(place)));
        x.load(other, Due.channel(there, 1));
        due.is(call, x.pin(tile, 1), other);
        for (int third = 0; third < Grid.TILES; third++) {
            if (third != tile) {
                long all = Grid.allChannels(1);
                x.load(third, third == other ? all & ~Due.channel(there, 7) : all);
            }
        }
        due.is(call + ", all channels sent on but that", x.pin(tile, 1), TileArray.NONE);
    }

    private static void edges(Due due) {
        due.sentence("at the edge there is none");
        int found = 0;
        for (int tile = 0; tile < Grid.TILES; tile++) {
            TileArray x = Grid.outletsEverywhere();
            for (int place = 0; place < Grid.PLACES; place++) {
                if (Grid.comesIn(tile, place) == Grid.NOTHING) {
                    found++;
                    x.load(tile, Due.pin(2, Due.from(place)));
                    String call = "(" + tile + ", 2) from place " + place;
                    due.is("pin" + call, x.pin(tile, 2), TileArray.NONE);
                    due.is("channels" + call, x.channels(tile, 2), 0);
                }
            }
        }
        due.is("places at the edge without an input", found, 4 * 4 * 2 - 4);
    }

    private static void inputs(Due due) {
        due.sentence("into the tile of row i and column 0 comes from the west on track 0 input i");
        for (int i = 0; i < 4; i++) {
            TileArray x = new TileArray();
            int tile = 4 * i;
            x.load(tile, Due.pin(0, Due.from(Due.WEST)) | Due.pin(1, Due.from(Due.WEST + 1)));
            due.is("pin(" + tile + ", 0), track 0", x.pin(tile, 0), 16 + i);
            due.is("pin(" + tile + ", 1), track 1", x.pin(tile, 1), TileArray.NONE);
            x.load(tile, Due.channel(Due.NORTH, 4) | Due.channel(Due.EAST, 3)
                    | Due.channel(Due.SOUTH, 2));
            int east = tile + 1;
            x.load(east, Due.pin(0, Due.from(Due.WEST)));
            due.is("pin(" + east + ", 0), by the channel east", x.pin(east, 0), 16 + i);
            if (i > 0) {
                x.load(tile - 4, Due.pin(0, Due.from(Due.SOUTH)));
                due.is("pin by the channel north", x.pin(tile - 4, 0), 16 + i);
            }
            if (i < 3) {
                x.load(tile + 4, Due.pin(0, Due.from(Due.NORTH)));
                due.is("pin by the channel south", x.pin(tile + 4, 0), 16 + i);
            }
        }
    }

    private static void inputsNowhereElse(Due due) {
        due.sentence("the inputs come in at four places alone");
        for (int tile = 0; tile < Grid.TILES; tile++) {
            for (int place = 0; place < Grid.PLACES; place++) {
                TileArray x = new TileArray();
                x.load(tile, Due.pin(0, Due.from(place)));
                boolean input = tile % 4 == 0 && place == Due.WEST;
                due.is("pin(" + tile + ", 0) from place " + place + " of an array without channels",
                        x.pin(tile, 0), input ? 16 + tile / 4 : TileArray.NONE);
            }
        }
    }

    private static void outputs(Due due) {
        due.sentence("output o is the channel east on track 0 of the tile of row o and column 3");
        for (int tile = 0; tile < Grid.TILES; tile++) {
            for (int place = 0; place < Grid.PLACES; place++) {
                TileArray x = new TileArray();
                x.load(tile, Due.channel(place, 1));
                for (int o = 0; o < 4; o++) {
                    boolean its = tile == 4 * o + 3 && place == Due.EAST;
                    due.is("outputOf(" + o + ") with channel " + place + " of tile " + tile,
                            x.outputOf(o), its ? tile : TileArray.NONE);
                }
            }
        }
    }

    /** The channels that lead out of the array are seen where they are outputs alone. */
    private static void channelSettings(Due due) {
        due.sentence("a channel is switched to 0 nothing; 1 the outlet; 2, 3, 4 what comes in");
        for (int tile = 0; tile < Grid.TILES; tile++) {
            for (int place = 0; place < Grid.PLACES; place++) {
                int next = Grid.beside(tile, place / 2);
                boolean output = place == Due.EAST && tile % 4 == 3;
                for (int setting = 0; setting < 5 && (output || next != Grid.NOTHING); setting++) {
                    TileArray x = Grid.outletsEverywhere();
                    x.load(tile, Due.channel(place, setting));
                    x.load(output ? tile : next, x.bits(output ? tile : next)
                            | Due.pin(0, output ? 0 : Due.from(Grid.opposite(place))));
                    int got = output ? x.outputOf(tile / 4) : x.pin(next, 0);
                    due.is("what channel " + place + " of tile " + tile + " gets at " + setting,
                            got, channelGets(tile, place, setting));
                }
            }
        }
    }

    private static int channelGets(int tile, int place, int setting) {
        if (setting < 2) {
            return setting == 0 ? TileArray.NONE : tile;
        }
        int direction = (place / 2 + setting - 1) % 4;
        return Grid.comesIn(tile, 2 * direction + place % 2);
    }

    private static void pinSettings(Due due) {
        due.sentence("a pin is switched to 0 nothing; 1 its own tile's outlet; 2 + 2 * d + k");
        for (int tile = 0; tile < Grid.TILES; tile++) {
            for (int pin = 0; pin < 3; pin++) {
                TileArray x = Grid.outletsEverywhere();
                for (int setting = 0; setting < 10; setting++) {
                    x.load(tile, Due.pin(pin, setting));
                    int want = setting < 2 ? setting == 0 ? TileArray.NONE : tile
                            : Grid.comesIn(tile, setting - 2);
                    due.is("pin(" + tile + ", " + pin + ") at " + setting, x.pin(tile, pin), want);
                }
            }
        }
    }

    /** Each edge is looked at by a channel of a tile that lies there. */
    private static void nothingComesIn(Due due) {
        due.sentence("(where nothing comes in, that is nothing)");
        int[][] looks = {
            // tile, channel, its setting, tile behind: to north, east, south, and west on track 1.
            {1, Due.SOUTH, 3, 5}, {1, Due.EAST, 4, 2}, {2, Due.WEST + 1, 2, 1},
            {7, Due.WEST, 3, 6}, {7, Due.SOUTH, 4, 11}, {11, Due.NORTH + 1, 2, 7},
            {14, Due.NORTH, 3, 10}, {14, Due.WEST, 4, 13}, {13, Due.EAST + 1, 2, 14},
            {4, Due.EAST + 1, 3, 5}, {4, Due.NORTH + 1, 4, 0}, {8, Due.SOUTH + 1, 2, 12},
        };
        for (int[] look : looks) {
            TileArray x = Grid.outletsEverywhere();
            x.load(look[0], Due.channel(look[1], look[2]));
            x.load(look[3], Due.pin(0, Due.from(Grid.opposite(look[1]))));
            String call = "(" + look[3] + ", 0), over the edge at tile " + look[0];
            due.is("pin" + call, x.pin(look[3], 0), TileArray.NONE);
            due.is("channels" + call, x.channels(look[3], 0), 0);
            x.load(look[0], Due.channel(look[1], 1));
            due.is("pin" + call + " no more", x.pin(look[3], 0), look[0]);
        }
    }

    /** Tile 5 lies in the middle: 1 is its own outlet, 2 its north, 4 its east, 8 its west. */
    private static void pinFields(Due due) {
        due.sentence("4 for the switch of each pin, behind the first ten bits");
        int[] gets = {5, 1, 6, 4};
        for (int bit = 10; bit < 22; bit++) {
            TileArray x = Grid.outletsEverywhere();
            x.load(5, 1L << bit);
            for (int pin = 0; pin < 3; pin++) {
                boolean its = pin == (bit - 10) / 4;
                due.is("pin(5, " + pin + ") with bit " + bit, x.pin(5, pin),
                        its ? gets[(bit - 10) % 4] : TileArray.NONE);
            }
        }
    }

    private static void channelFields(Due due) {
        due.sentence("and 3 for that of each channel, in the order of the wires");
        for (int bit = 22; bit < 46; bit++) {
            int its = (bit - 22) / 3;
            int setting = 1 << (bit - 22) % 3;
            for (int place = 0; place < Grid.PLACES; place++) {
                TileArray x = Grid.outletsEverywhere();
                x.load(5, 1L << bit);
                int next = Grid.beside(5, place / 2);
                x.load(next, x.bits(next) | Due.pin(1, Due.from(Grid.opposite(place))));
                due.is("what channel " + place + " of tile 5 with bit " + bit + " gets",
                        x.pin(next, 1), channelGets(5, place, place == its ? setting : 0));
            }
        }
    }

    /** Tile 6 looks at tiles 2, 5 and 10, of which each gives 1 or 0 always. */
    private static void tableRows(Due due) {
        due.sentence("bit v is what it gives when the pins are v");
        for (int v = 0; v < 8; v++) {
            for (int bit = 0; bit < 10; bit++) {
                TileArray x = new TileArray();
                x.load(2, ((v & 1) == 1 ? 255 : 0) | Due.channel(Due.SOUTH, 1));
                x.load(5, ((v & 2) == 2 ? 255 : 0) | Due.channel(Due.EAST, 1));
                x.load(10, ((v & 4) == 4 ? 255 : 0) | Due.channel(Due.NORTH, 1));
                Grid.lead(x, 6, (bit == 8 ? 0 : 1L << bit) | Due.pin(0, Due.from(Due.NORTH))
                        | Due.pin(1, Due.from(Due.WEST)) | Due.pin(2, Due.from(Due.SOUTH)));
                due.is("clock(0) with pins " + v + " and bit " + bit, x.clock(0), bit == v ? 2 : 0);
            }
        }
    }

    private static void registerAndFirstBits(Due due) {
        due.sentence("1 whether there is a register, 1 what it holds at first");
        for (int bit = 6; bit < 11; bit++) {
            TileArray x = new TileArray();
            Grid.lead(x, 3, 1L << bit);
            // The way ends in an output: behind a table 0.625 + 0.375, behind a register less.
            due.is("longest() with bit " + bit, x.longest(),
                    bit == 8 ? 0.875 : bit == 10 ? -1.0 : 1.0);
        }
        for (int first = 0; first < 2; first++) {
            TileArray x = new TileArray();
            Grid.lead(x, 3, 256 | 512 * first);
            x.reset();
            due.is("clock(0) with first " + first, x.clock(0), first);
        }
    }

    private static void fortySixBits(Due due) {
        due.sentence("46");
        for (int bit = 0; bit < 64; bit++) {
            TileArray x = new TileArray();
            due.is("load(9, bit " + bit + ")", x.load(9, 1L << bit), bit < 46);
            due.is("bits(9)", x.bits(9), bit < 46 ? 1L << bit : 0L);
        }
    }

    private static void allZeroAtFirst(Due due) {
        due.sentence("at first all are 0");
        TileArray x = new TileArray();
        for (int tile = 0; tile < Grid.TILES; tile++) {
            due.is("bits(" + tile + ")", x.bits(tile), 0L);
        }
    }
}
