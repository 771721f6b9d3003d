/** Promises 12 to 14: pins and outputs that are none, the longest ways, and rings of channels. */
public final class BoundsWaysTest {
    /** All 48 channels of track 0 that lead from tile to tile, in a single ring. */
    static final String RING_OF_ALL = "0 e<s s<e; 1 e<w s<e w<s; 2 e<w s<e w<s; 3 s<w w<s;"
            + " 4 n<e e<s s<n; 5 n<s e<w s<e w<n; 6 n<e e<s s<w w<n; 7 n<w s<n w<s; 8 n<s e<n s<e;"
            + " 9 n<s e<w s<n w<e; 10 n<e e<w s<n w<s; 11 n<w s<n w<s; 12 n<e e<n; 13 n<w e<n w<e;"
            + " 14 n<w e<n w<e; 15 n<w w<n";
    private static final int[] NO_TILES = {
        Integer.MIN_VALUE, -16, -2, -1, 16, 17, 32, Integer.MAX_VALUE,
    };
    private static final int[] NO_PINS = {
        Integer.MIN_VALUE, -3, -2, -1, 3, 4, 6, Integer.MAX_VALUE,
    };
    private static final int[] NO_OUTPUTS = {
        Integer.MIN_VALUE, -4, -2, -1, 4, 5, 8, Integer.MAX_VALUE,
    };

    public static void main(String[] args) {
        Due due = new Due("BoundsWaysTest");
        everyOutlet(due);
        everyInput(due);
        nothing(due);
        noTile(due);
        noPin(due);
        smallestRings(due);
        ringFromOutside(due);
        ringOpened(due);
        ringOfAll(due);
        noRingAtTheSameTile(due);
        longestWays(due);
        longestWayOnTrackOne(due);
        everyOutput(due);
        noOutput(due);
        outputsInRings(due);
        channelsOfNone(due);
        channelsFromZeroOn(due);
        due.end();
    }

    private static void everyOutlet(Due due) {
        due.sentence("0 .. 15 the outlet of the tile with this number");
        for (int tile = 0; tile < Grid.TILES; tile++) {
            TileArray x = new TileArray();
            for (int pin = 0; pin < 3; pin++) {
                x.load(tile, Due.pin(pin, 1));
                due.is("pin(" + tile + ", " + pin + ")", x.pin(tile, pin), tile);
                due.is("channels(" + tile + ", " + pin + ")", x.channels(tile, pin), 0);
                due.is("another pin", x.pin(tile, (pin + 1) % 3), TileArray.NONE);
            }
        }
    }

    private static void everyInput(Due due) {
        due.sentence("16 + i the input i");
        for (int i = 0; i < 4; i++) {
            TileArray x = new TileArray();
            Drawn.load(x, 4 * i + " 2<w e<w; " + (4 * i + 1) + " 2<w", 0);
            due.is("pin(" + 4 * i + ", 2)", x.pin(4 * i, 2), 16 + i);
            due.is("channels(" + 4 * i + ", 2)", x.channels(4 * i, 2), 0);
            due.is("pin(" + (4 * i + 1) + ", 2)", x.pin(4 * i + 1, 2), 16 + i);
            due.is("channels(" + (4 * i + 1) + ", 2)", x.channels(4 * i + 1, 2), 1);
        }
    }

    private static void nothing(Due due) {
        due.sentence("NONE if nothing");
        TileArray x = new TileArray();
        // From a channel switched to nothing, at once or behind others, and from over the edge.
        Drawn.load(x, "5 0<w 1<n 2<e; 1 s<n; 6 w<e; 7 w<n; 3 s<n", 0);
        for (int pin = 0; pin < 3; pin++) {
            due.is("pin(5, " + pin + ")", x.pin(5, pin), TileArray.NONE);
            due.is("channels(5, " + pin + ")", x.channels(5, pin), 0);
        }
    }

    private static void noTile(Due due) {
        due.sentence("NONE if there is no such tile");
        TileArray x = new TileArray();
        for (int tile = 0; tile < Grid.TILES; tile++) {
            x.load(tile, Due.pin(0, 1) | Due.pin(1, 1) | Due.pin(2, 1));
        }
        for (int tile : NO_TILES) {
            for (int pin = -1; pin < 4; pin++) {
                due.is("pin(" + tile + ", " + pin + ")", x.pin(tile, pin), TileArray.NONE);
            }
        }
        due.is("pin(0, 0)", x.pin(0, 0), 0);
        due.is("pin(15, 2)", x.pin(15, 2), 15);
    }

    private static void noPin(Due due) {
        due.sentence("NONE if there is no such pin");
        TileArray x = new TileArray();
        for (int tile = 0; tile < Grid.TILES; tile++) {
            x.load(tile, Due.pin(0, 1) | Due.pin(1, 1) | Due.pin(2, 1));
        }
        for (int tile = 0; tile < Grid.TILES; tile++) {
            for (int pin : NO_PINS) {
                due.is("pin(" + tile + ", " + pin + ")", x.pin(tile, pin), TileArray.NONE);
            }
            due.is("pin(" + tile + ", 0)", x.pin(tile, 0), tile);
            due.is("pin(" + tile + ", 2)", x.pin(tile, 2), tile);
        }
    }

    /** Four channels round four tiles, either way round; a pin of each tile looks at them. */
    private static void smallestRings(Due due) {
        due.sentence("RING if one comes back to a channel on the way there");
        for (int tile = 0; tile < 11; tile++) {
            if (tile % 4 == 3) {
                continue;
            }
            int[] round = {tile, tile + 1, tile + 5, tile + 4};
            TileArray x = new TileArray();
            Drawn.load(x, round[0] + " 0<s e<s; " + round[1] + " 0<w s<w; " + round[2]
                    + " 0<n w<n; " + round[3] + " 0<e n<e", 0);
            TileArray y = new TileArray();
            Drawn.load(y, round[0] + " 2<E S<E; " + round[3] + " 2<N E<N; " + round[2]
                    + " 2<W N<W; " + round[1] + " 2<S W<S", 0);
            for (int of : round) {
                due.is("pin(" + of + ", 0) in a ring", x.pin(of, 0), TileArray.RING);
                due.is("channels(" + of + ", 0) in a ring", x.channels(of, 0), 0);
                due.is("pin(" + of + ", 1) beside a ring", x.pin(of, 1), TileArray.NONE);
                due.is("pin(" + of + ", 2) in a ring", y.pin(of, 2), TileArray.RING);
                due.is("channels(" + of + ", 2) in a ring", y.channels(of, 2), 0);
            }
        }
    }

    /** The ring is round tiles 5, 6, 10 and 9; a way out of it leads on to tile 3. */
    private static void ringFromOutside(Due due) {
        due.sentence("one comes back to a channel: be it the first or not");
        TileArray x = new TileArray();
        Drawn.load(x, "5 e<s; 6 s<w e<w; 10 w<n; 9 n<e; 7 n<w; 3 1<s", 0);
        due.is("pin(3, 1)", x.pin(3, 1), TileArray.RING);
        due.is("channels(3, 1)", x.channels(3, 1), 0);
    }

    private static void ringOpened(Due due) {
        due.sentence("no ring where one of its channels is switched elsewhere");
        String[] closed = {"5 e<s", "6 s<w e<w", "10 w<n", "9 n<e"};
        String[] opened = {"5 e<o", "6 s<o e<w", "10 w<o", "9 n<o"};
        int[] from = {5, 6, 10, 9};
        int[] channels = {3, 6, 5, 4};
        for (int i = 0; i < 4; i++) {
            TileArray x = new TileArray();
            for (int tile = 0; tile < 4; tile++) {
                Drawn.load(x, tile == i ? opened[tile] : closed[tile], 0);
            }
            Drawn.load(x, "7 n<w; 3 1<s", 0);
            // Back from tile 3: by tiles 7, 6 and 5, then 9, 10 and, round the ring, 6 again.
            due.is("pin(3, 1), opened at tile " + from[i], x.pin(3, 1), from[i]);
            due.is("channels(3, 1)", x.channels(3, 1), channels[i]);
        }
        TileArray x = new TileArray();
        Drawn.load(x, "5 e<s; 6 s<w e<w; 10 w<n; 9 n<s; 7 n<w; 3 1<s", 0);
        due.is("pin(3, 1), from a channel switched to nothing", x.pin(3, 1), TileArray.NONE);
    }

    private static void ringOfAll(Due due) {
        due.sentence("RING, of the most channels");
        TileArray x = new TileArray();
        Drawn.load(x, RING_OF_ALL, 0);
        for (int tile = 0; tile < Grid.TILES; tile++) {
            for (int direction = 0; direction < 4; direction++) {
                if (Grid.beside(tile, direction) != Grid.NOTHING) {
                    long its = x.bits(tile);
                    x.load(tile, its | Due.pin(0, Due.from(2 * direction)));
                    due.is("pin(" + tile + ", 0) from direction " + direction, x.pin(tile, 0),
                            TileArray.RING);
                    x.load(tile, its);
                }
            }
        }
    }

    private static void noRingAtTheSameTile(Due due) {
        due.sentence("back to a channel: to come back to a tile is no ring");
        TileArray x = new TileArray();
        // From tile 5 east, south, west, north, and through tile 5 to tile 1.
        Drawn.load(x, "5 e<o n<s; 6 s<w; 10 w<n; 9 n<e; 1 0<s", 0);
        due.is("pin(1, 0)", x.pin(1, 0), 5);
        due.is("channels(1, 0)", x.channels(1, 0), 5);
        // The same on both tracks: they are channels apart.
        Drawn.load(x, "5 e<o n<s 2<N; 6 s<w S<o; 10 w<n W<N; 9 n<e N<E; 1 0<s S<o", 0);
        due.is("pin(1, 0)", x.pin(1, 0), 5);
        due.is("pin(5, 2)", x.pin(5, 2), 1);
    }

    /** The ring of all is cut at a channel, which begins the way; the one before it ends it. */
    private static void longestWays(Due due) {
        due.sentence("channels(): how many channels there are on the way, 48 at most");
        TileArray x = new TileArray();
        Drawn.load(x, RING_OF_ALL, 0);
        Drawn.load(x, "0 0<s 1<e e<o s<e", 0);
        due.is("pin(0, 0), behind all channels", x.pin(0, 0), 0);
        due.is("channels(0, 0)", x.channels(0, 0), 48);
        Drawn.load(x, "0 0<s e<w s<e", 0);
        due.is("pin(0, 0), from input 0", x.pin(0, 0), 16);
        due.is("channels(0, 0)", x.channels(0, 0), 48);
        Drawn.load(x, "0 0<s e<s s<e; 3 2<w s<o w<s e<w", 0);
        due.is("pin(3, 2)", x.pin(3, 2), 3);
        due.is("channels(3, 2)", x.channels(3, 2), 48);
        due.is("outputOf(0), a channel more", x.outputOf(0), 3);
        due.is("longest()", x.longest(), -1.0);
        Drawn.load(x, "3 s<o w<s e<w", 0);
        due.is("longest() to the output", x.longest(), 0.625 + 49 * 0.375);
    }

    private static void longestWayOnTrackOne(Due due) {
        due.sentence("48 on the other track, too");
        TileArray x = new TileArray();
        Drawn.load(x, RING_OF_ALL.toUpperCase(), 0);
        Drawn.load(x, "15 1<N N<W W<N", 0);
        due.is("pin(15, 1) in the ring", x.pin(15, 1), TileArray.RING);
        Drawn.load(x, "15 1<N N<W W<o", 0);
        due.is("pin(15, 1)", x.pin(15, 1), 15);
        due.is("channels(15, 1)", x.channels(15, 1), 48);
    }

    private static void everyOutput(Due due) {
        due.sentence("what an output gets, likewise");
        for (int o = 0; o < 4; o++) {
            int row = 4 * o;
            TileArray x = new TileArray();
            Drawn.load(x, row + " e<w; " + (row + 1) + " e<w; " + (row + 2) + " e<w; " + (row + 3)
                    + " e<w", 0);
            for (int other = 0; other < 4; other++) {
                due.is("outputOf(" + other + ")", x.outputOf(other),
                        other == o ? 16 + o : TileArray.NONE);
            }
            Drawn.load(x, row + " e<o", 0);
            due.is("outputOf(" + o + ") from tile " + row, x.outputOf(o), row);
            Drawn.load(x, (row + 3) + " e<o", 0);
            due.is("outputOf(" + o + ") from tile " + (row + 3), x.outputOf(o), row + 3);
        }
    }

    private static void noOutput(Due due) {
        due.sentence("NONE for an output that is none");
        TileArray x = Grid.outletsEverywhere();
        for (int tile = 0; tile < Grid.TILES; tile++) {
            x.load(tile, x.bits(tile) | Due.pin(0, 1) | Due.pin(1, 1) | Due.pin(2, 1));
        }
        for (int o : NO_OUTPUTS) {
            due.is("outputOf(" + o + ")", x.outputOf(o), TileArray.NONE);
        }
        due.is("outputOf(0)", x.outputOf(0), 3);
        due.is("outputOf(3)", x.outputOf(3), 15);
    }

    private static void outputsInRings(Due due) {
        due.sentence("RING for an output");
        for (int o = 0; o < 3; o++) {
            int tile = 4 * o + 2;
            TileArray x = new TileArray();
            Drawn.load(x, tile + " e<s; " + (tile + 1) + " s<w e<w; " + (tile + 5) + " w<n e<n; "
                    + (tile + 4) + " n<e", 0);
            due.is("outputOf(" + o + ")", x.outputOf(o), TileArray.RING);
            due.is("outputOf(" + (o + 1) + ")", x.outputOf(o + 1), TileArray.RING);
            due.is("longest()", x.longest(), 0.0);
            due.is("clock(15)", x.clock(15), 0);
        }
    }

    private static void channelsOfNone(Due due) {
        due.sentence("channels(): 0 otherwise");
        TileArray x = new TileArray();
        for (int tile = 0; tile < Grid.TILES; tile++) {
            Drawn.load(x, tile + " e<o w<o 0<e 1<w 2<e", 0);
        }
        for (int tile : NO_TILES) {
            for (int pin = -1; pin < 4; pin++) {
                due.is("channels(" + tile + ", " + pin + ")", x.channels(tile, pin), 0);
            }
        }
        for (int tile = 0; tile < Grid.TILES; tile++) {
            for (int pin : NO_PINS) {
                due.is("channels(" + tile + ", " + pin + ")", x.channels(tile, pin), 0);
            }
            due.is("channels(" + tile + ", 0)", x.channels(tile, 0), tile % 4 < 3 ? 1 : 0);
            due.is("channels(" + tile + ", 2)", x.channels(tile, 2), tile % 4 < 3 ? 1 : 0);
        }
    }

    private static void channelsFromZeroOn(Due due) {
        due.sentence("channels(): 0, 1, .. on the way to a pin that gets something");
        TileArray x = new TileArray();
        Drawn.load(x, "12 0<o 1<w e<w E<o; 13 0<w 1<W e<w E<W; 14 0<w 1<W e<w E<W; 15 0<w 1<W", 0);
        for (int column = 0; column < 4; column++) {
            int tile = 12 + column;
            due.is("pin(" + tile + ", 0)", x.pin(tile, 0), column == 0 ? 12 : 19);
            due.is("channels(" + tile + ", 0)", x.channels(tile, 0), column);
            due.is("pin(" + tile + ", 1)", x.pin(tile, 1), column == 0 ? 19 : 12);
            due.is("channels(" + tile + ", 1)", x.channels(tile, 1), column);
        }
    }
}
