/** The head "Routing": how many rounds, which order, what a wire costs, which of equal ways. */
public final class BoundsRoutingTest {
    public static void main(String[] args) {
        Due due = new Due("BoundsRoutingTest");
        atMostTwelveRounds(due);
        noNetRoutedAtFirst(due);
        nothingFromEarlierBuildings(due);
        cellsThenInputs(due);
        byNumberOfSource(due);
        sinksInOrder(due);
        treeIsUsed(due);
        overChannelsAlone(due);
        ownOutlet(due);
        lowestWireAtPin(due);
        lowestTrackAtPin(due);
        lowestWireAtWire(due);
        leastBeforeLowest(due);
        costOfUse(due);
        costOfManyUses(due);
        costOfThreeUses(due);
        historyGrows(due);
        historyBeginsAtZero(due);
        due.end();
    }

    private static void routes(Due due, String circuit, int rounds, String switches) {
        TileArray x = Drawn.circuit(circuit);
        due.is("build() of " + circuit, x.build(), rounds);
        due.is("switches of " + circuit, Drawn.switches(x), switches);
    }

    /** What more rounds would bring was found with more of them. */
    private static void atMostTwelveRounds(Due due) {
        due.sentence("in rounds, at most 12; UNROUTED if twelve rounds were not enough");
        String[] circuits = {
            "@0", "@3 0.2=12 o0=13 o2=10", "@13 0.0=13 0.1=12 0.2=11",
            "@14 0.0=10 0.1=13 0.2=11 o2=11", "@14 0.0=11 0.1=13 0.2=10 o2=10",
            "@1 0.0=13 0.1=10 0.2=12 o0=11 o3=12", "@7 0.0=13 o0=11 o1=12 o3=10",
            "@7 0.0=13 o0=12 o1=11 o2=10", "@12 0.2=11 o0=13 o1=0 o2=12 o3=11",
            "@7 0.0=12 0.1=13 o1=11 o2=11 o3=10", "@15 0.0=10 0.1=11 o0=13 o1=12 o2=12",
            "@7 0.0=11 0.2=12 o1=13 o3=10",
        };
        for (int i = 0; i < circuits.length; i++) {
            due.is("build() of " + circuits[i], Drawn.circuit(circuits[i]).build(), i + 1);
        }
        String[] tooLong = {
            "@10 0.0=12 0.1=13 0.2=10 o1=0 o2=11 o3=0", "@11 0.0=10 0.2=11 o0=12 o1=13 o3=12",
            "@11 0.0=12 0.2=10 o0=11 o1=13 o3=11",
        };
        for (int i = 0; i < tooLong.length; i++) {
            TileArray x = Drawn.circuit(tooLong[i]);
            due.is("build() that needs " + (13 + i) + " rounds", x.build(), TileArray.UNROUTED);
            due.is("tileOf(0) of " + tooLong[i], x.tileOf(0), TileArray.NONE);
            due.is("switches of " + tooLong[i], Drawn.switches(x), "");
        }
        // Two channels of track 0 lead to tile 3; three inputs, on track 0 alone, can't share them.
        due.is("build() that no round could end", Drawn.circuit("@3 0.0=12 0.1=10 o0=11").build(),
                TileArray.UNROUTED);
    }

    /** In round 1 inputs 0 and 3 share wires; nothing of their ways there is left in round 2. */
    private static void noNetRoutedAtFirst(Due due) {
        due.sentence("a round begins with no net routed");
        routes(due, "@3 0.0=13 0.1=12 o1=10", 2, "0 e<w; 1 e<w; 2 e<s s<w; 3 0<w 1<s; 4 e<s; 5 e<w;"
                + " 6 n<w e<n; 7 n<s e<w; 8 n<s e<w; 9 e<w; 10 e<w; 11 n<w; 12 n<w");
    }

    private static void nothingFromEarlierBuildings(Due due) {
        due.sentence("the switches of the routing, all others 0");
        TileArray x = Drawn.circuit("@5 @6 1.0=0 1.1=0 0.2=0");
        x.build();
        due.is("switches", Drawn.switches(x), "5 2<o e<o; 6 0<w 1<w");
        x.connect(0, 2, -1);
        x.connect(1, 0, -1);
        x.build();
        due.is("switches without two of the sinks", Drawn.switches(x), "5 e<o; 6 1<w");
        x.connect(1, 1, -1);
        due.is("build() without sinks", x.build(), 1);
        due.is("switches without sinks", Drawn.switches(x), "");
        Drawn.connect(x, "1.0=0 1.1=0 0.2=0");
        x.build();
        due.is("switches with all of them again", Drawn.switches(x), "5 2<o e<o; 6 0<w 1<w");
        x.load(15, Due.pin(0, 9) | Grid.allChannels(4));
        x.build();
        due.is("switches behind load() of an empty tile", Drawn.switches(x),
                "5 2<o e<o; 6 0<w 1<w");
    }

    /** Cell 0 comes before input 3 and has the lower wires; the input goes round it. */
    private static void cellsThenInputs(Due due) {
        due.sentence("the nets are routed by number of their source (cells, then inputs)");
        routes(due, "@12 o0=13 o1=0", 1, "1 e<s; 2 e<w; 3 e<w; 4 e<s; 5 n<s e<w; 6 e<w; 7 e<w;"
                + " 8 n<s; 9 n<s; 12 n<o e<w; 13 n<w");
    }

    /** Input 1 comes first and goes straight; for input 2 that wire then is too dear. */
    private static void byNumberOfSource(Due due) {
        due.sentence("by number of their source");
        routes(due, "@5 0.0=11 0.2=12", 1, "4 e<w; 5 0<w 2<s; 8 e<w; 9 n<w");
        routes(due, "@5 0.0=12 0.2=11", 1, "4 e<w; 5 0<s 2<w; 8 e<w; 9 n<w");
    }

    private static void sinksInOrder(Due due) {
        due.sentence("its SINKS: pins by cell and pin, then outputs, by number");
        // The pin on tile 3 first: the output then leaves the way there; else it would go by row 1.
        routes(due, "@3 0.1=11 o1=11", 1, "0 e<s; 1 e<w; 2 e<w; 3 1<w s<w; 4 n<w; 7 e<n");
        // Output 0 first: the way to output 2 then goes down column 3.
        routes(due, "@12 o0=11 o2=11", 1, "0 e<s; 1 e<w; 2 e<w; 3 e<w s<w; 4 n<w; 7 s<n; 11 e<n");
        // Pin 2 of cell 0 before pin 0 of cell 1: the way to tile 15 begins in tile 12.
        routes(due, "@12 @15 0.2=11 1.0=11", 1,
                "4 s<w; 8 s<n; 12 2<n e<n; 13 e<w; 14 e<w; 15 0<w");
        // The same tiles, the other cell first: now tile 12 is come to last.
        routes(due, "@15 @12 0.0=11 1.2=11", 1,
                "4 e<w s<w; 5 e<w; 6 e<w; 7 s<w; 8 s<n; 11 s<n; 12 2<n; 15 0<n");
    }

    private static void treeIsUsed(Due due) {
        due.sentence("from any wire of the tree; wires of the tree cost nothing");
        // The second pin takes what is there already, the output goes on from tile 6.
        routes(due, "@4 @6 1.0=0 1.2=0 o1=0", 1, "4 e<o; 5 e<w; 6 0<w 2<w e<w; 7 e<w");
        // The output's wire is in the tree when output 1 is come to.
        routes(due, "@7 @3 0.0=1 1.0=1 o0=1 o1=1", 1, "3 0<o e<o s<o; 7 0<n e<n");
        // A way of four from tile 6 to tile 8, but of one from the tree that ends on tile 4.
        routes(due, "@6 @4 @8 1.0=0 2.0=0", 1, "4 0<e s<e; 5 w<e; 6 w<o; 8 0<n");
    }

    /** Tiles 1 and 2 have cells, of which the outlets are no part of the way. */
    private static void overChannelsAlone(Due due) {
        due.sentence("over channels alone");
        TileArray x = Drawn.circuit("@0 @1 @2 @3 1.0=0 2.0=0 3.0=0");
        due.is("build()", x.build(), 1);
        for (int tile = 1; tile < 4; tile++) {
            due.is("pin(" + tile + ", 0)", x.pin(tile, 0), 0);
            due.is("channels(" + tile + ", 0)", x.channels(tile, 0), tile);
        }
        due.is("switches", Drawn.switches(x), "0 e<o; 1 0<w e<w; 2 0<w e<w; 3 0<w");
    }

    private static void ownOutlet(Due due) {
        due.sentence("the TREE that has its source's wire alone: a pin of its own tile is next to"
                + " it, and so is an input's");
        for (int tile = 0; tile < Grid.TILES; tile++) {
            routes(due, "@" + tile + " 0.0=0 0.2=0", 1, tile + " 0<o 2<o");
        }
        for (int i = 0; i < 4; i++) {
            routes(due, "@" + 4 * i + " 0.1=" + (10 + i), 1, 4 * i + " 1<w");
        }
    }

    /** Two channels either way: what comes in from the tile with the lower number is taken. */
    private static void lowestWireAtPin(Due due) {
        due.sentence("at a pin, to the lowest wire of those with the least D");
        routes(due, "@0 @5 1.0=0", 1, "0 e<o; 1 s<w; 5 0<n");
        routes(due, "@3 @6 1.1=0", 1, "2 s<e; 3 w<o; 6 1<n");
        routes(due, "@12 @9 1.2=0", 1, "8 e<s; 9 2<w; 12 n<o");
        routes(due, "@15 @10 1.0=0", 1, "10 0<e; 11 w<s; 15 n<o");
        routes(due, "@1 0.2=11", 1, "0 e<s; 1 2<w; 4 n<w");
    }

    private static void lowestTrackAtPin(Due due) {
        due.sentence("the lowest wire: that of track 0");
        routes(due, "@5 @6 1.0=0", 1, "5 e<o; 6 0<w");
        routes(due, "@5 @4 1.0=0", 1, "4 0<e; 5 w<o");
        routes(due, "@5 @1 1.0=0", 1, "1 0<s; 5 n<o");
        routes(due, "@5 @9 1.0=0", 1, "5 s<o; 9 0<n");
        // Two nets go from tile 5 to tile 6: the second has track 1.
        routes(due, "@4 @5 @6 2.0=0 2.1=1", 1, "4 e<o; 5 e<w E<o; 6 0<w 1<W");
    }

    private static void lowestWireAtWire(Due due) {
        due.sentence("at a wire, to the lowest wire to which it can be switched with D(p) + cost");
        routes(due, "@11 o1=12", 1, "4 e<s; 5 e<w; 6 e<w; 7 e<w; 8 n<w");
        routes(due, "@2 o1=0", 1, "2 e<o; 3 s<w; 7 e<n");
        routes(due, "@14 o2=0", 1, "10 e<s; 11 e<w; 14 n<o");
        routes(due, "@11 @1 1.2=0", 1, "1 2<e; 2 w<e; 3 w<s; 7 n<s; 11 n<o");
        routes(due, "@5 @15 1.2=0", 1, "5 e<o; 6 e<w; 7 s<w; 11 s<n; 15 2<n");
    }

    /** The lowest wire into tile 15 comes from the north, but from the west it is near. */
    private static void leastBeforeLowest(Due due) {
        due.sentence("of those with the least D: a higher wire that is nearer is taken");
        routes(due, "@14 @15 1.0=0", 1, "14 e<o; 15 0<w");
        routes(due, "@9 @5 1.0=0", 1, "5 0<s; 9 n<o");
        routes(due, "@6 @5 1.0=0", 1, "5 0<e; 6 w<o");
        routes(due, "@15 0.0=0", 1, "15 0<o");
    }

    private static void costOfUse(Due due) {
        due.sentence("COSTS 1 + 3 times how many nets that were routed before in this round use"
                + " it");
        // Input 0 has the wire from tile 4 to tile 8: for input 1 that costs 4, a way round it 3.
        routes(due, "@8 0.0=11 0.2=10", 1, "0 s<w; 4 e<w s<n; 5 s<w; 8 0<e 2<n; 9 w<n");
        routes(due, "@0 0.0=13 o0=11", 1, "0 0<e e<s; 1 e<w w<s; 2 e<w; 3 e<w; 4 n<w e<s; 5 n<w;"
                + " 8 n<s; 12 n<w");
    }

    private static void costOfManyUses(Due due) {
        due.sentence("3 times how many: two nets count twice");
        routes(due, "@3 @15 0.0=1 0.1=11 1.0=10 o0=13 o1=12", 3, "0 e<w; 1 e<w; 2 e<s s<w;"
                + " 3 0<S 1<w e<s; 4 e<w; 5 e<w; 6 n<w e<s s<n; 7 n<s N<S e<w; 8 e<w; 9 e<w;"
                + " 10 n<w e<n; 11 n<s N<S s<w; 12 e<w; 13 e<w; 14 e<w; 15 0<n n<w N<o");
    }

    private static void costOfThreeUses(Due due) {
        due.sentence("3 times how many: three nets count three times");
        due.is("build() with three nets before", Drawn.circuit("@13 @2 @5 @4 @7 @15 @14 @3 0.1=7"
                + " 1.0=5 1.1=3 2.0=10 2.1=12 2.2=6 3.2=3 4.0=0 5.1=1 6.0=10 6.2=1 7.0=11 7.1=12"
                + " 7.2=3 o2=4").build(), 2);
    }

    private static void historyGrows(Due due) {
        due.sentence("the history of each wire that is used by n > 1 nets grows by n - 1");
        // From tile 12 to 13 input 3 has a wire of input 2 or a way round, of five channels: the
        // wire costs 1 + 3, then 1 + 3 + 1, which is as much, and is the lower; then 1 + 3 + 2.
        routes(due, "@13 0.0=13 0.1=12 0.2=11", 3, "4 e<w; 5 s<w; 8 e<s s<w; 9 e<w s<n; 10 s<w;"
                + " 12 n<w e<n; 13 0<e 1<w 2<n; 14 w<n");
        routes(due, "@14 @9 @13 0.0=13 0.2=1 2.0=2 o1=1 o2=2 o3=12", 4, "0 e<s; 1 e<w; 2 e<w;"
                + " 3 s<w; 4 n<s; 5 e<s; 6 e<s s<w; 7 e<w s<n; 8 n<w; 9 n<s e<o; 10 n<w e<n s<w;"
                + " 11 e<w s<n; 12 e<w; 13 0<o n<o e<w; 14 0<w 2<n; 15 e<n");
        // A history of more than 9 tells here, in the last of the rounds that may be.
        due.is("build() with long histories", Drawn.circuit("@5 @4 @0 @2 @15 1.1=4 1.2=3 2.0=4"
                + " 2.1=11 2.2=13 3.1=12 4.1=0 o2=1").build(), 12);
    }

    private static void historyBeginsAtZero(Due due) {
        due.sentence("its HISTORY (0 at first), in every building");
        String twelve = "@7 0.0=11 0.2=12 o1=13 o3=10";
        TileArray x = Drawn.circuit(twelve);
        due.is("build() of twelve rounds", x.build(), 12);
        String switches = Drawn.switches(x);
        for (int again = 0; again < 3; again++) {
            due.is("build() again", x.build(), 12);
            due.is("switches again", Drawn.switches(x), switches);
        }
        TileArray y = Drawn.circuit("@11 0.0=10 0.2=11 o0=12 o1=13 o3=12");
        due.is("build(), not enough rounds", y.build(), TileArray.UNROUTED);
        due.is("build(), not enough rounds again", y.build(), TileArray.UNROUTED);
        Drawn.connect(y, "0.0=12 0.2=-1 o0=-1 o1=-1 o2=11 o3=-1");
        due.is("build() behind it", y.build(), 1);
        due.is("switches behind it", Drawn.switches(y),
                "4 e<w; 5 e<w; 6 e<w; 7 s<w; 8 e<w; 9 e<w; 10 e<w; 11 0<w e<n");
    }
}
