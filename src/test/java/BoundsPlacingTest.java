/** The head "Placing": spans from 0 to 6, taken and free tiles, which pairs are exchanged, when. */
public final class BoundsPlacingTest {
    public static void main(String[] args) {
        Due due = new Due("BoundsPlacingTest");
        spanOfTwoCells(due);
        spanOfInputs(due);
        spanOfOutputs(due);
        spanFromInputToOutput(due);
        spanOfMany(due);
        netsWithoutSinks(due);
        sumOfAllSpans(due);
        lowestFreeTiles(due);
        lessAlone(due);
        cellOrNothing(due);
        firstAndLastPairs(due);
        orderOfPairs(due);
        severalExchangesInAPass(due);
        fixedStay(due);
        passesUntilNoneExchanges(due);
        fourteenPasses(due);
        due.end();
    }

    private static int apart(int a, int b) {
        return Math.abs(a / 4 - b / 4) + Math.abs(a % 4 - b % 4);
    }

    private static void costs(Due due, String circuit, int cost) {
        TileArray x = Drawn.circuit(circuit);
        due.is("build() of " + circuit, x.build() > 0, true);
        due.is("cost() of " + circuit, x.cost(), cost);
    }

    private static void spanOfTwoCells(Due due) {
        due.sentence("(greatest column - least column) + (greatest row - least row)");
        for (int from = 0; from < Grid.TILES; from++) {
            costs(due, "@" + from + " 0.2=0", 0);
            for (int to = 0; to < Grid.TILES; to++) {
                if (to != from) {
                    costs(due, "@" + from + " @" + to + " 1.1=0", apart(from, to));
                }
            }
        }
    }

    private static void spanOfInputs(Due due) {
        due.sentence("input i being at row i and column 0");
        for (int i = 0; i < 4; i++) {
            for (int tile = 0; tile < Grid.TILES; tile++) {
                costs(due, "@" + tile + " 0.0=" + (10 + i), apart(tile, 4 * i));
            }
        }
    }

    private static void spanOfOutputs(Due due) {
        due.sentence("output o at row o and column 3");
        for (int o = 0; o < 4; o++) {
            for (int tile = 0; tile < Grid.TILES; tile++) {
                costs(due, "@" + tile + " o" + o + "=0", apart(tile, 4 * o + 3));
            }
        }
    }

    private static void spanFromInputToOutput(Due due) {
        due.sentence("a net of an input and outputs alone has its span, too");
        for (int i = 0; i < 4; i++) {
            for (int o = 0; o < 4; o++) {
                costs(due, "@0 o" + o + "=" + (10 + i), 3 + Math.abs(i - o));
            }
            costs(due, "@5 o0=" + (10 + i) + " o3=" + (10 + i), 3 + 3);
        }
    }

    /** Whichever of its cells is the outermost: the source, the first, the last, one between. */
    private static void spanOfMany(Due due) {
        due.sentence("over the tiles of its cells");
        String sinks = " 1.0=0 2.0=0 3.0=0";
        costs(due, "@1 @4 @11 @14" + sinks, 6);
        costs(due, "@4 @11 @14 @1" + sinks, 6);
        costs(due, "@11 @14 @1 @4" + sinks, 6);
        costs(due, "@14 @1 @4 @11" + sinks, 6);
        costs(due, "@5 @6 @9 @10" + sinks, 2);
        costs(due, "@0 @5 @6 @10" + sinks, 4);
        costs(due, "@5 @0 @6 @10" + sinks, 4);
        costs(due, "@5 @6 @0 @10" + sinks, 4);
        costs(due, "@5 @6 @10 @0" + sinks, 4);
        costs(due, "@5 @6 @10 @15" + sinks, 4);
        costs(due, "@4 @5 @6 @7" + sinks, 3);
        costs(due, "@2 @6 @10 @14" + sinks, 3);
        // Several sinks of one cell count as one.
        costs(due, "@0 @15 1.0=0 1.1=0 1.2=0", 6);
        // Four outputs and a cell in column 0 take the whole array, and no more.
        costs(due, "@4 o0=0 o1=0 o2=0 o3=0 0.0=0", 6);
    }

    private static void netsWithoutSinks(Due due) {
        due.sentence("a net with sinks");
        costs(due, "@0 @15 @3 @12", 0);
        costs(due, "@-", 0);
        costs(due, "@0 @15 o3=1", 0);
        TileArray x = Drawn.circuit("@0 @15 1.0=0");
        x.build();
        due.is("cost() with a sink", x.cost(), 6);
        x.connect(1, 0, -1);
        x.build();
        due.is("cost() when the last sink has gone", x.cost(), 0);
    }

    private static void sumOfAllSpans(Due due) {
        due.sentence("the COST of a placing is the sum of all spans");
        for (int source = 0; source < 10; source++) {
            // The cell on tile s is s: each alone, for one that is left out to be found.
            String ten = "@0 @1 @2 @3 @4 @5 @6 @7 @8 @9";
            costs(due, ten + " o3=" + source, apart(source, 15));
        }
        costs(due, "@0 @1 @2 @3 @4 @5 @6 @7 @8 @9 1.0=0 2.0=1 3.0=2 4.0=3 5.0=4 6.0=5 7.0=6 8.0=7"
                + " 9.0=8 0.0=9", 1 + 1 + 1 + 4 + 1 + 1 + 1 + 4 + 1 + 3);
        costs(due, "@5 0.0=10 0.1=11 0.2=12 o3=13 o0=0", 2 + 1 + 2 + 3 + 3);
    }

    private static void placedAt(Due due, String circuit, int cells, int cost, String tiles) {
        TileArray x = Drawn.circuit(circuit);
        due.is("build() of " + circuit, x.build() > 0, true);
        due.is("tiles of " + circuit, Drawn.tiles(x, cells), tiles);
        due.is("cost() of " + circuit, x.cost(), cost);
    }

    /** Without nets nothing is exchanged, so that the first placing is seen. */
    private static void lowestFreeTiles(Due due) {
        due.sentence("fixed cells are put on their tiles, the others in order on the lowest tile"
                + " that is not taken");
        placedAt(due, "@-", 1, 0, "0");
        placedAt(due, "@- @- @- @- @- @- @- @- @- @-", 10, 0, "0 1 2 3 4 5 6 7 8 9");
        placedAt(due, "@- @0 @1 @2 @3 @4 @5 @6 @7 @8", 10, 0, "9 0 1 2 3 4 5 6 7 8");
        placedAt(due, "@0 @1 @2 @3 @4 @5 @6 @7 @8 @-", 10, 0, "0 1 2 3 4 5 6 7 8 9");
        placedAt(due, "@- @- @- @- @- @1 @3 @5 @7 @9", 10, 0, "0 2 4 6 8 1 3 5 7 9");
        placedAt(due, "@- @15 @- @0 @-", 5, 0, "1 15 2 0 3");
        placedAt(due, "@15 @14 @13 @12 @11 @10 @9 @8 @7 @6", 10, 0, "15 14 13 12 11 10 9 8 7 6");
    }

    private static void lessAlone(Due due) {
        due.sentence("is exchanged if that makes the cost less");
        // From input 0 to output 0 all of row 0 costs 3: the cell stays where it is put.
        placedAt(due, "@- 0.0=10 o0=0", 1, 3, "0");
        // Another placing of the cell changes nothing about a net that it is not in.
        placedAt(due, "@- o2=13", 1, 4, "0");
        // Either cell could be the one on tile 0.
        placedAt(due, "@- @- 0.0=10 1.0=10", 2, 1, "0 1");
        placedAt(due, "@- @- 0.0=1 1.0=0", 2, 2, "0 1");
        // Less by one is enough.
        placedAt(due, "@- 0.0=11", 1, 0, "4");
        placedAt(due, "@- @- 1.2=10", 2, 0, "1 0");
    }

    private static void cellOrNothing(Due due) {
        due.sentence("what is on them (a cell or nothing)");
        // A cell goes to the higher tile, which is empty.
        placedAt(due, "@- o0=0", 1, 0, "3");
        // Two cells: cell 1 takes tile 0, cell 0 the one that it left.
        placedAt(due, "@- @- 1.2=10", 2, 0, "1 0");
        // Cell 1 comes to tile 9 alone, for cell 0 is on tile 8 then, on its way to tile 12: in the
        // next pass it goes to the lower tile, which is empty by then.
        placedAt(due, "@- @- 0.1=13 1.2=12", 2, 0, "12 8");
        // Tile 0, too, is left in the pass before.
        placedAt(due, "@- @- 0.0=13 1.1=10", 2, 0, "12 0");
    }

    private static void firstAndLastPairs(Due due) {
        due.sentence("for all tiles a < b: 0 and 1, and 14 and 15, among them");
        placedAt(due, "@- @- 1.0=10", 2, 0, "1 0");
        placedAt(due, "@- o3=0", 1, 0, "15");
        // Tile 11 is taken, so that the cell comes from tile 7 over tile 14 to tile 15.
        placedAt(due, "@- @11 o3=0", 2, 0, "15 11");
        placedAt(due, "@- @- o2=1 o3=0", 2, 0, "15 11");
        placedAt(due, "@- 0.0=13", 1, 0, "12");
    }

    private static void orderOfPairs(Due due) {
        due.sentence("by a, then by b");
        // All tiles of rows 1 and 2 cost 4: tile 4 is the first that is come to.
        placedAt(due, "@- 0.1=12 o1=12", 1, 4, "4");
        // Cell 1 goes to tile 4 and to tile 8, cell 0 follows it to tile 4 in the next pass.
        placedAt(due, "@- @- 1.0=12 1.1=0 o3=1", 2, 5, "4 8");
        // Cell 1 comes to tile 4 over tile 0, from where it drives cell 0 to tile 1.
        placedAt(due, "@- @- 1.0=11", 2, 0, "1 4");
        placedAt(due, "@- o0=0 o3=0", 1, 3, "3");
    }

    private static void severalExchangesInAPass(Due due) {
        due.sentence("a pass goes on behind an exchange");
        placedAt(due, "@- @- 0.0=12 1.0=12 1.1=13", 2, 2, "9 8");
        placedAt(due, "@- @- 0.1=12 0.2=1 o2=0", 2, 4, "8 9");
        placedAt(due, "@- @- 0.0=11 1.0=12 o2=0", 2, 4, "5 8");
    }

    private static void fixedStay(Due due) {
        due.sentence("of which none has a fixed cell");
        for (int tile = 0; tile < Grid.TILES; tile++) {
            placedAt(due, "@" + tile + " 0.0=10", 1, apart(tile, 0), "" + tile);
            placedAt(due, "@" + tile + " o3=0", 1, apart(tile, 15), "" + tile);
        }
        // A free cell can't have the tile of a fixed one, be that the lower or the higher.
        placedAt(due, "@0 @- 1.0=10", 2, 1, "0 1");
        placedAt(due, "@- @15 o3=0", 2, 1, "11 15");
        // No longer fixed, it makes room.
        TileArray x = Drawn.circuit("@0 @- 1.0=10");
        x.fix(0, -1);
        x.build();
        due.is("tiles when no cell is fixed any more", Drawn.tiles(x, 2), "1 0");
    }

    /** The circuits need so many passes that exchange something; the next one ends the placing. */
    private static void passesUntilNoneExchanges(Due due) {
        due.sentence("passes go on until one exchanges nothing");
        placedAt(due, "@0 o3=0", 1, 6, "0");
        placedAt(due, "@- 0.0=13", 1, 0, "12");
        // Cell 0 goes down to tile 12 in the first pass and leaves tile 0, which cell 1 then takes.
        placedAt(due, "@- @- 0.0=13 1.1=10", 2, 0, "12 0");
        placedAt(due, "@- @- @- 0.1=13 1.0=12 2.1=11", 3, 0, "12 8 4");
        placedAt(due, "@- @- @- 0.2=11 1.0=13 2.1=11 2.2=13 o3=2", 3, 6, "4 8 12");
        placedAt(due, "@- @- @- @- 0.0=13 1.0=12 1.1=3 1.2=0 2.0=11 3.1=1 3.2=12", 4, 4,
                "12 8 4 9");
    }

    /**
     * Fourteen passes exchange something: more were found in no circuit, so that no answer tells
     * the limit of 20 from one of 14, or from none; LimitsTest looks it up in the class.
     */
    private static void fourteenPasses(Due due) {
        due.sentence("or 20 were made");
        placedAt(due, "@- @- @- @- @- @- @- @- @- @12 0.0=5 0.1=2 0.2=13 1.1=9 1.2=4 2.1=13 2.2=11"
                + " 3.0=7 3.1=0 3.2=9 4.0=3 4.1=0 5.1=2 6.0=10 6.1=7 6.2=2 7.0=6 8.0=3 8.1=1 8.2=4"
                + " 9.0=5 9.1=0 9.2=6 o2=8 o3=3", 10, 27, "8 14 4 9 13 0 1 5 10 12");
    }
}
