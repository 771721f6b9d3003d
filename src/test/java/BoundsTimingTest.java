/** Promises 15 and 16: what counts for the longest way, rings of tiles, and which periods count. */
public final class BoundsTimingTest {
    private static final double SETUP = 0.625 + 0.25;

    public static void main(String[] args) {
        Due due = new Due("BoundsTimingTest");
        zeroIfNone(due);
        outletWithRegister(due);
        outletWithoutPins(due);
        outletWithPins(due);
        latestPin(due);
        inputAtZero(due);
        eachChannel(due);
        registersThatGetSomething(due);
        registersThatGetNothing(due);
        tablesThatLeadNowhere(due);
        greatestOfAll(due);
        sixteenTables(due);
        sixteenTablesBackward(due);
        ringOfOne(due);
        ringOfSixteen(due);
        ringWithRegister(due);
        ringThatNobodySees(due);
        periodsAboveZero(due);
        periodsNotAboveZero(due);
        slackOfRing(due);
        due.end();
    }

    private static TileArray loaded(String switches) {
        TileArray x = new TileArray();
        Drawn.load(x, switches, 0);
        return x;
    }

    private static void addRegister(TileArray x, int tile) {
        x.load(tile, x.bits(tile) | Due.register(false));
    }

    private static void zeroIfNone(Due due) {
        due.sentence("0 if there are none");
        due.is("longest() of a new array", new TileArray().longest(), 0.0);
        TileArray x = new TileArray();
        for (int tile = 0; tile < Grid.TILES; tile++) {
            x.load(tile, 1023);
        }
        due.is("longest() of registers without pins", x.longest(), 0.0);
        due.is("longest() of outputs that get nothing",
                loaded("3 e<w; 7 e<n; 11 e<s; 15 e<s").longest(), 0.0);
        due.is("longest() of a pin alone", loaded("0 0<w").longest(), 0.0);
    }

    private static void outletWithRegister(Due due) {
        due.sentence("an outlet with a register is there at 0.5");
        for (int tile = 3; tile < Grid.TILES; tile += 4) {
            TileArray x = loaded(tile + " e<o");
            addRegister(x, tile);
            due.is("longest() from tile " + tile, x.longest(), 0.5 + 0.375);
            // Whatever its pins get: those end in the register.
            x = loaded(tile + " e<o 0<o");
            addRegister(x, tile);
            due.is("longest() round by tile " + tile, x.longest(), 0.5 + SETUP);
        }
    }

    private static void outletWithoutPins(Due due) {
        due.sentence("(0.625 if none does)");
        for (int tile = 3; tile < Grid.TILES; tile += 4) {
            due.is("longest() from tile " + tile, loaded(tile + " e<o").longest(), 0.625 + 0.375);
        }
        due.is("longest(), pins that get nothing", loaded("3 e<o 0<n 1<e 2<w").longest(), 1.0);
        TileArray x = loaded("3 e<o; 5 e<s; 6 s<w; 10 w<n e<w; 9 n<e 0<e e<o; 11 e<w");
        due.is("pin(9, 0)", x.pin(9, 0), TileArray.RING);
        due.is("longest(), a pin that gets RING", x.longest(), 0.625 + 3 * 0.375);
    }

    private static void outletWithPins(Due due) {
        due.sentence("without one, at 0.625 + the latest of its pins that get something");
        for (int pin = 0; pin < 3; pin++) {
            TileArray x = loaded("12 " + pin + "<w e<o; 13 e<w; 14 e<w; 15 e<w");
            due.is("longest() from an input, pin " + pin, x.longest(), 0.625 + 4 * 0.375);
            x = loaded("3 " + pin + "<w e<o; 2 e<o");
            due.is("longest() from a table, pin " + pin, x.longest(),
                    0.625 + 0.375 + 0.625 + 0.375);
            addRegister(x, 2);
            due.is("longest() from a register, pin " + pin, x.longest(),
                    0.5 + 0.375 + 0.625 + 0.375);
        }
    }

    /** Tile 7 gets tile 6 by one channel, tile 3 by one, and tile 5 by two. */
    private static void latestPin(Due due) {
        due.sentence("the latest of its pins: the first, the second or the third");
        String[] orders = {"0<w 1<n 2<W", "0<W 1<w 2<n", "0<n 1<W 2<w"};
        for (String order : orders) {
            TileArray x = loaded("7 e<o " + order + "; 6 e<o E<W; 5 E<o; 3 s<o");
            due.is("longest() with " + order, x.longest(), 0.625 + 0.75 + 0.625 + 0.375);
            addRegister(x, 5);
            due.is("longest() with " + order + ", a register in the farthest", x.longest(),
                    0.5 + 0.75 + 0.625 + 0.375);
        }
    }

    private static void inputAtZero(Due due) {
        due.sentence("an input at 0");
        for (int i = 0; i < 4; i++) {
            int row = 4 * i;
            TileArray x = loaded(row + " 0<w");
            addRegister(x, row);
            due.is("longest() from input " + i + " to a register", x.longest(), SETUP);
            x = loaded(row + " e<w; " + (row + 1) + " e<w; " + (row + 2) + " e<w; " + (row + 3)
                    + " e<w");
            due.is("longest() from input " + i + " to an output", x.longest(), 4 * 0.375);
        }
    }

    private static void eachChannel(Due due) {
        due.sentence("0.375 for each channel on its way (an output's own channel too)");
        String[] ways = {"3 e<o", "3 e<w; 2 e<o", "3 e<w; 2 e<w; 1 e<o",
            "3 e<w; 2 e<w; 1 e<w; 0 e<o", "3 e<w; 2 e<w; 1 e<w; 0 e<s; 4 n<o"};
        for (int i = 0; i < ways.length; i++) {
            due.is("longest() of " + ways[i], loaded(ways[i]).longest(), 0.625 + 0.375 * (i + 1));
        }
        String[] pins = {"3 0<o", "3 0<w; 2 e<o", "3 0<w; 2 e<w; 1 e<o"};
        for (int i = 0; i < pins.length; i++) {
            TileArray x = loaded(pins[i]);
            addRegister(x, 3);
            addRegister(x, 3 - i);
            due.is("longest() of " + pins[i], x.longest(), 0.5 + 0.375 * i + SETUP);
        }
    }

    private static void registersThatGetSomething(Due due) {
        due.sentence("the latest pin + 0.625 + 0.25 of each tile with a register that has a pin"
                + " which gets something");
        for (int tile = 0; tile < Grid.TILES; tile++) {
            for (int pin = 0; pin < 3; pin++) {
                TileArray x = loaded(tile + " " + pin + "<o");
                addRegister(x, tile);
                due.is("longest() of tile " + tile + ", pin " + pin, x.longest(), 0.5 + SETUP);
            }
        }
    }

    private static void registersThatGetNothing(Due due) {
        due.sentence("which gets something");
        TileArray x = loaded("5 e<s 1<s; 6 s<w 0<w; 10 w<n 2<n; 9 n<e; 1 0<n 1<w 2<S");
        for (int tile = 0; tile < Grid.TILES; tile++) {
            addRegister(x, tile);
        }
        due.is("pin(5, 1)", x.pin(5, 1), TileArray.RING);
        due.is("pin(1, 2)", x.pin(1, 2), TileArray.NONE);
        due.is("longest() of pins with RING and NONE alone", x.longest(), 0.0);
        // One pin of three gets something.
        x.load(1, x.bits(1) & ~Due.pin(1, 15) | Due.pin(1, 1));
        due.is("longest() of a pin more", x.longest(), 0.5 + SETUP);
    }

    private static void tablesThatLeadNowhere(Due due) {
        due.sentence("a tile without a register ends no way");
        TileArray x = loaded("0 e<o; 1 0<w e<o; 2 0<w e<o; 3 0<w");
        due.is("longest() of tables in a row", x.longest(), 0.0);
        addRegister(x, 3);
        due.is("longest() into a register", x.longest(), 3 * (0.625 + 0.375) + SETUP);
    }

    private static void greatestOfAll(Due due) {
        due.sentence("the longest way is the greatest of");
        for (int o = 0; o < 4; o++) {
            TileArray x = loaded("3 e<o; 7 e<o; 11 e<o; 15 e<o");
            Drawn.load(x, (4 * o + 3) + " e<w; " + (4 * o + 2) + " e<o", 0);
            due.is("longest(), the latest is output " + o, x.longest(), 0.625 + 2 * 0.375);
        }
        for (int late = 0; late < 8; late += 7) {
            TileArray x = loaded("0 1<o; 7 1<o; " + late + " 1<o 2<w; 6 e<o");
            x.load(late, x.bits(late) | Due.register(false));
            x.load(7 - late, x.bits(7 - late) | Due.register(false));
            // Tile 7 gets tile 6, which is later than its own register; tile 0 gets an input.
            due.is("longest() with two pins of tile " + late, x.longest(),
                    (late == 7 ? 1.0 : 0.5) + SETUP);
        }
        TileArray x = loaded("15 e<o; 0 0<o");
        addRegister(x, 0);
        due.is("longest(), a register after an output", x.longest(), 0.5 + SETUP);
        Drawn.load(x, "15 e<w; 14 e<w; 13 e<w; 12 e<o", 0);
        due.is("longest(), an output after a register", x.longest(), 0.625 + 4 * 0.375);
    }

    /** Along row 0, back along row 1, along row 2, and back along row 3: then to output 3. */
    private static void sixteenTables(Due due) {
        due.sentence("the longest chain: sixteen tables");
        TileArray x = loaded("0 e<o; 1 0<w e<o; 2 0<w e<o; 3 0<w s<o; 7 0<n w<o; 6 0<e w<o;"
                + " 5 0<e w<o; 4 0<e s<o; 8 0<n e<o; 9 0<w e<o; 10 0<w e<o; 11 0<w s<o;"
                + " 15 0<n w<o e<w; 14 0<e w<o e<w; 13 0<e w<o e<w; 12 0<e e<o");
        due.is("longest()", x.longest(), 16 * 0.625 + 15 * 0.375 + 4 * 0.375);
        due.is("slack(20.0)", x.slack(20.0), 20.0 - 17.125);
    }

    /** Each tile gets the next one: the first of a row leads to the last of the row above. */
    private static void sixteenTablesBackward(Due due) {
        due.sentence("the longest chain, against the order of tiles");
        TileArray x = loaded("0 0<e e<o E<S; 1 0<e w<o e<w E<W; 2 0<e w<o e<w E<W; 3 0<W w<o e<w;"
                + " 4 0<e N<o E<S; 5 0<e w<o E<W; 6 0<e w<o E<W; 7 0<W w<o; 8 0<e N<o E<S;"
                + " 9 0<e w<o E<W; 10 0<e w<o E<W; 11 0<W w<o; 12 0<e N<o; 13 0<e w<o; 14 0<e w<o;"
                + " 15 w<o");
        for (int tile = 0; tile < 15; tile++) {
            due.is("pin(" + tile + ", 0)", x.pin(tile, 0), tile + 1);
        }
        due.is("longest()", x.longest(), 16 * 0.625 + 12 * 0.375 + 3 * 4 * 0.375 + 4 * 0.375);
    }

    private static void ringOfOne(Due due) {
        due.sentence("-1 if tiles without registers can be found of which each feeds a pin of the"
                + " next, and the last of the first: one tile");
        for (int tile = 0; tile < Grid.TILES; tile++) {
            for (int pin = 0; pin < 3; pin++) {
                TileArray x = loaded(tile + " " + pin + "<o");
                due.is("longest(), tile " + tile + " by pin " + pin, x.longest(), -1.0);
                due.is("slack(9.0)", x.slack(9.0), -1.0);
            }
        }
        due.is("longest(), round by channels", loaded("5 e<o 0<s; 6 s<w; 10 w<n; 9 n<e").longest(),
                -1.0);
    }

    /** Every tile feeds its neighbour, and all of them make one ring. */
    private static TileArray roundAll() {
        return loaded("0 0<s e<o; 1 0<w e<o; 2 0<w e<o; 3 0<w s<o; 7 0<n w<o; 6 0<e w<o; 5 0<e s<o;"
                + " 9 0<n e<o; 10 0<w e<o; 11 0<w s<o; 15 0<n w<o; 14 0<e w<o; 13 0<e w<o;"
                + " 12 0<e n<o; 8 0<s n<o; 4 0<s n<o");
    }

    private static void ringOfSixteen(Due due) {
        due.sentence("-1: sixteen tiles");
        due.is("longest()", roundAll().longest(), -1.0);
        for (int tile = 0; tile < Grid.TILES; tile++) {
            TileArray x = roundAll();
            addRegister(x, tile);
            due.is("longest(), a register in tile " + tile, x.longest(),
                    0.5 + 16 * 0.375 + 15 * 0.625 + SETUP);
            x = roundAll();
            x.load(tile, x.bits(tile) & ~Due.pin(0, 15));
            due.is("longest(), no pin at tile " + tile, x.longest(), 0.0);
        }
    }

    private static void ringWithRegister(Due due) {
        due.sentence("tiles without registers");
        TileArray x = loaded("9 0<o 1<e e<o; 10 0<w w<o");
        due.is("longest() of two rings", x.longest(), -1.0);
        addRegister(x, 10);
        due.is("longest(), tile 9 feeds itself still", x.longest(), -1.0);
        addRegister(x, 9);
        due.is("longest(), registers in both", x.longest(), 0.5 + 0.375 + SETUP);
        x.load(10, x.bits(10) & ~256L);
        due.is("longest(), a register in one", x.longest(), 0.5 + 0.375 + 0.625 + 0.375 + SETUP);
    }

    private static void ringThatNobodySees(Due due) {
        due.sentence("can be found: whatever the outputs and registers get");
        TileArray x = loaded("3 e<o; 12 2<o");
        addRegister(x, 3);
        due.is("longest(), a ring beside an output", x.longest(), -1.0);
        x.load(12, 0);
        due.is("longest() without it", x.longest(), 0.875);
        // Tile 13 hangs on the ring of tiles 8 and 12 and is in none itself.
        x = loaded("8 1<s s<o; 12 1<n n<o e<o; 13 0<w");
        due.is("longest(), a ring that feeds another tile", x.longest(), -1.0);
        // What each gives doesn't count: their tables are 0 always.
        due.is("clock(0)", x.clock(0), 0);
    }

    private static void periodsAboveZero(Due due) {
        due.sentence("by how much a period is longer than the longest way");
        TileArray x = loaded("3 e<o");
        double[] periods = {1.0, 0.5, 1.5, 1000000.0, Double.MIN_VALUE, 0.999, Double.MAX_VALUE};
        for (double period : periods) {
            due.is("slack(" + period + ")", x.slack(period), period - 1.0);
        }
        due.is("slack(infinite)", x.slack(Double.POSITIVE_INFINITY), Double.POSITIVE_INFINITY);
        TileArray none = new TileArray();
        due.is("slack(the least) of nothing", none.slack(Double.MIN_VALUE), Double.MIN_VALUE);
        due.is("slack(0.5) of nothing", none.slack(0.5), 0.5);
    }

    private static void periodsNotAboveZero(Due due) {
        due.sentence("-1 if the period is not above 0");
        double[] periods = {0.0, -0.0, -Double.MIN_VALUE, -0.5, -1.0, -1000000.0,
            -Double.MAX_VALUE, Double.NEGATIVE_INFINITY, Double.NaN};
        TileArray x = loaded("3 e<o");
        for (double period : periods) {
            due.is("slack(" + period + ")", x.slack(period), -1.0);
            due.is("slack(" + period + ") of nothing", new TileArray().slack(period), -1.0);
        }
    }

    private static void slackOfRing(Due due) {
        due.sentence("slack(): -1 if that is -1");
        double[] periods = {Double.MIN_VALUE, 0.5, 1.0, 17.125, Double.MAX_VALUE,
            Double.POSITIVE_INFINITY, 0.0, -1.0, Double.NaN};
        for (double period : periods) {
            due.is("slack(" + period + ")", roundAll().slack(period), -1.0);
        }
    }
}
