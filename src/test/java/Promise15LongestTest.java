/** Promise 15: longest. */
public final class Promise15LongestTest {
    public static void main(String[] args) {
        Due due = new Due("Promise15LongestTest");
        outputsAlone(due);
        registers(due);
        chains(due);
        rings(due);
        due.end();
    }

    private static void outputsAlone(Due due) {
        TileArray x = new TileArray();
        due.is("longest() of nothing", x.longest(), 0.0);
        x.load(3, Due.channel(Due.EAST, 1));
        due.is("longest(): a table without pins, a channel", x.longest(), 1.0);
        x.load(3, Due.channel(Due.EAST, 1) | Due.register(false));
        due.is("longest(): a register, a channel", x.longest(), 0.875);
        x.load(3, Due.channel(Due.EAST, 3));
        due.is("longest(): an output that gets nothing", x.longest(), 0.0);
        for (int column = 0; column < 4; column++) {
            x.load(column, Due.channel(Due.EAST, 3));
        }
        due.is("longest(): an input, four channels", x.longest(), 1.5);
        x.load(15, Due.channel(Due.EAST, 1) | Due.pin(0, 0));
        due.is("longest(): the greater of two outputs", x.longest(), 1.5);
        x.load(4, Due.pin(0, Due.from(Due.WEST)));
        due.is("longest(): a table that leads nowhere", x.longest(), 1.5);
        x.load(4, Due.channel(Due.EAST, 1));
        x.load(5, Due.pin(0, Due.from(Due.WEST)) | Due.channel(Due.EAST, 3));
        x.load(6, Due.pin(0, Due.from(Due.WEST)));
        due.is("longest(): a later table that leads nowhere", x.longest(), 1.5);
    }

    private static void registers(Due due) {
        TileArray x = new TileArray();
        x.load(5, Due.register(true) | 255);
        due.is("longest(): a register that gets nothing", x.longest(), 0.0);
        x.load(5, Due.register(true) | Due.pin(2, 1));
        due.is("longest(): a register from itself", x.longest(), 0.5 + 0.875);
        x.load(4, Due.register(true) | Due.pin(0, Due.from(Due.WEST)));
        x.load(5, 0);
        due.is("longest(): a register from an input", x.longest(), 0.875);
        x.load(4, Due.channel(Due.EAST, 3));
        x.load(5, Due.register(true) | Due.pin(0, 1) | Due.pin(1, Due.from(Due.WEST)));
        due.is("longest(): the latest pin is the register's", x.longest(), 0.5 + 0.875);
        x.load(4, Due.channel(Due.EAST, 1));
        due.is("longest(): the latest pin is a table's", x.longest(), 0.625 + 0.375 + 0.875);
    }

    /** Tile 2 feeds tile 1, that tile 0 (each without a register), that goes to output 0. */
    private static void chains(Due due) {
        TileArray x = new TileArray();
        x.load(2, Due.pin(0, Due.from(Due.NORTH)) | Due.channel(Due.WEST, 1)
                | Due.channel(Due.EAST, 3));
        x.load(1, Due.pin(1, Due.from(Due.EAST)) | Due.channel(Due.WEST, 1)
                | Due.channel(Due.EAST, 3));
        x.load(0, Due.pin(2, Due.from(Due.EAST)) | Due.pin(0, Due.from(Due.WEST))
                | Due.channel(Due.EAST, 1));
        x.load(3, Due.channel(Due.EAST, 3));
        double atTile0 = 0.625 + 0.375 + 0.625 + 0.375;
        due.is("longest(): three tables", x.longest(), atTile0 + 0.625 + 4 * 0.375);
        x.load(1, Due.register(false) | Due.pin(1, Due.from(Due.EAST)) | Due.channel(Due.WEST, 1)
                | Due.channel(Due.EAST, 3));
        due.is("longest(): behind a register", x.longest(), 0.5 + 0.375 + 0.625 + 4 * 0.375);
        x.load(3, 0);
        due.is("longest(): into the register", x.longest(), 0.625 + 0.375 + 0.875);
    }

    private static void rings(Due due) {
        TileArray x = new TileArray();
        x.load(9, Due.pin(1, 1));
        due.is("longest(): a tile that feeds itself", x.longest(), -1.0);
        x.load(9, Due.pin(1, 1) | Due.register(false));
        due.is("longest(): with a register", x.longest(), 1.375);
        x.load(9, Due.pin(0, Due.from(Due.EAST)) | Due.channel(Due.EAST, 1));
        x.load(10, Due.pin(2, Due.from(Due.WEST)) | Due.channel(Due.WEST, 1));
        due.is("longest(): two that feed each other", x.longest(), -1.0);
        x.load(3, Due.channel(Due.EAST, 1));
        due.is("longest(): and an output", x.longest(), -1.0);
        x.load(10, Due.register(true) | Due.pin(2, Due.from(Due.WEST)) | Due.channel(Due.WEST, 1));
        due.is("longest(): one with a register", x.longest(), 0.5 + 0.375 + 0.625 + 0.375 + 0.875);
        channelRing(due);
    }

    /** Pins that come back to a channel get nothing, so that no tile feeds another by them. */
    private static void channelRing(Due due) {
        TileArray x = new TileArray();
        x.load(5, Due.channel(Due.EAST, 2) | Due.pin(0, Due.from(Due.SOUTH)));
        x.load(6, Due.channel(Due.SOUTH, 2) | Due.pin(0, Due.from(Due.WEST)) | Due.register(true));
        x.load(10, Due.channel(Due.WEST, 2));
        x.load(9, Due.channel(Due.NORTH, 2));
        due.is("longest(): pins in a ring of channels", x.longest(), 0.0);
        x.load(3, Due.channel(Due.EAST, 1));
        due.is("longest(): and an output", x.longest(), 1.0);
    }
}
