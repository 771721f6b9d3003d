/** The array as the document draws it: what lies beside a tile, and what comes in to it. */
final class Grid {
    static final int TILES = 16;
    static final int PLACES = 8;
    static final int NOTHING = -1;

    // By direction (north, east, south, west), then by tile; NOTHING is beyond the edge.
    private static final int[][] BESIDE = {
        {-1, -1, -1, -1, 0, 1, 2, 3, 4, 5, 6, 7, 8, 9, 10, 11},
        {1, 2, 3, -1, 5, 6, 7, -1, 9, 10, 11, -1, 13, 14, 15, -1},
        {4, 5, 6, 7, 8, 9, 10, 11, 12, 13, 14, 15, -1, -1, -1, -1},
        {-1, 0, 1, 2, -1, 4, 5, 6, -1, 8, 9, 10, -1, 12, 13, 14},
    };

    private Grid() {
    }

    static int beside(int tile, int direction) {
        return BESIDE[direction][tile];
    }

    /** The place at which a channel comes in to the next tile. */
    static int opposite(int place) {
        return (place + 4) % PLACES;
    }

    /** What comes in to a tile at a place when every channel is switched to its tile's outlet. */
    static int comesIn(int tile, int place) {
        int other = beside(tile, place / 2);
        boolean input = place == Due.WEST && tile % 4 == 0;
        return other == NOTHING && input ? 16 + tile / 4 : other;
    }

    static long allChannels(int setting) {
        long bits = 0;
        for (int place = 0; place < PLACES; place++) {
            bits |= Due.channel(place, setting);
        }
        return bits;
    }

    /** An array in which every channel is switched to the outlet of its tile. */
    static TileArray outletsEverywhere() {
        TileArray x = new TileArray();
        for (int tile = 0; tile < TILES; tile++) {
            x.load(tile, allChannels(1));
        }
        return x;
    }

    /** Leads the outlet of a tile, which gets these bits too, along its row to the output there. */
    static void lead(TileArray x, int tile, long bits) {
        x.load(tile, bits | Due.channel(Due.EAST, 1));
        for (int next = tile + 1; next % 4 != 0; next++) {
            x.load(next, Due.channel(Due.EAST, 3));
        }
    }

    /** What an output answers in clock() when it alone gives 1. */
    static int bitOfRow(int tile) {
        return 1 << tile / 4;
    }
}
