/** Promise 12: pin. */
public final class Promise12PinTest {
    private static final int[] ROW_STEP = {-1, 0, 1, 0};
    private static final int[] COLUMN_STEP = {0, 1, 0, -1};

    public static void main(String[] args) {
        Due due = new Due("Promise12PinTest");
        fromNeighbours(due);
        turns(due);
        nothing(due);
        rings(due);
        edges(due);
        due.end();
    }

    /** What lies beside a tile: a tile, -1 if none. */
    private static int beside(int tile, int direction) {
        int row = tile / 4 + ROW_STEP[direction];
        int column = tile % 4 + COLUMN_STEP[direction];
        return row < 0 || row > 3 || column < 0 || column > 3 ? -1 : 4 * row + column;
    }

    /** Every tile looks at every place; its neighbours send their outlets on all channels. */
    private static void fromNeighbours(Due due) {
        for (int tile = 0; tile < 16; tile++) {
            TileArray x = new TileArray();
            for (int other = 0; other < 16; other++) {
                long all = 0;
                for (int place = 0; place < 8; place++) {
                    all |= Due.channel(place, 1);
                }
                x.load(other, all);
            }
            x.load(tile, Due.pin(1, 1));
            due.is("pin(" + tile + ", 1), its own outlet", x.pin(tile, 1), tile);
            for (int place = 0; place < 8; place++) {
                x.load(tile, Due.pin(place % 3, Due.from(place)));
                int from = beside(tile, place / 2);
                int want = place == 6 && from < 0 ? 16 + tile / 4 : from;
                due.is("pin(" + tile + ", " + place % 3 + ") from place " + place,
                        x.pin(tile, place % 3), want);
            }
        }
    }

    /** A channel out of tile 5, switched to each way in, with one tile around it to send. */
    private static void turns(Due due) {
        for (int out = 0; out < 8; out++) {
            int direction = out / 2;
            int track = out % 2;
            int end = beside(5, direction);
            int back = (direction + 2) % 4 * 2 + track;
            for (int turn = 1; turn < 4; turn++) {
                int from = (direction + turn) % 4;
                int sender = beside(5, from);
                TileArray x = new TileArray();
                x.load(end, Due.pin(2, Due.from(back)));
                x.load(5, Due.channel(out, 1 + turn));
                String call = "pin(" + end + ", 2) from " + sender + ", track " + track;
                x.load(sender, Due.channel((from + 2) % 4 * 2 + 1 - track, 1));
                due.is(call + " but on the other", x.pin(end, 2), TileArray.NONE);
                x.load(sender, Due.channel((from + 2) % 4 * 2 + track, 1));
                due.is(call, x.pin(end, 2), sender);
            }
        }
    }

    private static void nothing(Due due) {
        TileArray x = new TileArray();
        x.load(0, Due.pin(0, Due.from(Due.WEST)) | Due.pin(1, Due.from(Due.WEST + 1))
                | Due.pin(2, Due.from(Due.NORTH)));
        due.is("pin(0, 0), the input", x.pin(0, 0), 16);
        due.is("pin(0, 1), no input on track 1", x.pin(0, 1), TileArray.NONE);
        due.is("pin(0, 2), over the edge", x.pin(0, 2), TileArray.NONE);
        x.load(12, Due.channel(Due.NORTH, 4));
        x.load(8, Due.channel(Due.EAST, 2));
        x.load(9, Due.pin(0, Due.from(Due.WEST)));
        due.is("pin(9, 0) from input 3", x.pin(9, 0), 19);
        x.load(12, Due.channel(Due.NORTH, 3));
        due.is("pin(9, 0) from over the edge", x.pin(9, 0), TileArray.NONE);
        x.load(12, 0);
        due.is("pin(9, 0) from a channel switched to nothing", x.pin(9, 0), TileArray.NONE);
    }

    /** Channels round tiles 5, 6, 10 and 9; tile 1 looks at them by a channel outside. */
    private static void rings(Due due) {
        TileArray x = new TileArray();
        x.load(5, Due.channel(Due.EAST, 2) | Due.channel(Due.NORTH, 3));
        x.load(6, Due.channel(Due.SOUTH, 2) | Due.pin(0, Due.from(Due.WEST)));
        x.load(10, Due.channel(Due.WEST, 2));
        x.load(9, Due.channel(Due.NORTH, 2));
        x.load(1, Due.pin(1, Due.from(Due.SOUTH)));
        due.is("pin(6, 0) in the ring", x.pin(6, 0), TileArray.RING);
        due.is("channels(6, 0)", x.channels(6, 0), 0);
        due.is("pin(1, 1) from the ring", x.pin(1, 1), TileArray.RING);
        due.is("pin(6, 1), switched to nothing", x.pin(6, 1), TileArray.NONE);
        x.load(10, Due.channel(Due.WEST, 1));
        due.is("pin(6, 0) from the ring opened", x.pin(6, 0), 10);
        due.is("pin(1, 1) from the ring opened", x.pin(1, 1), 10);
    }

    private static void edges(Due due) {
        TileArray x = new TileArray();
        for (int tile = 0; tile < 16; tile++) {
            x.load(tile, Due.pin(0, 1) | Due.pin(1, 1) | Due.pin(2, 1));
        }
        int[] noTiles = {-1, 16, Integer.MAX_VALUE, Integer.MIN_VALUE};
        for (int tile : noTiles) {
            due.is("pin(" + tile + ", 0)", x.pin(tile, 0), TileArray.NONE);
        }
        int[] noPins = {-1, 3, Integer.MAX_VALUE, Integer.MIN_VALUE};
        for (int pin : noPins) {
            due.is("pin(5, " + pin + ")", x.pin(5, pin), TileArray.NONE);
        }
    }
}
