/**
 * Circuits and switches as short texts. A circuit: for each cell "@5" (fixed to tile 5) or "@-",
 * for each sink "1.2=11" (pin 2 of cell 1 from source 11) or "o3=0" (output 3 from source 0).
 * Switches: for each tile that has some its number, for each pin and channel what it is switched
 * to: "o" the outlet, else the direction "n e s w" it comes from, in capitals on track 1.
 */
final class Drawn {
    private static final String TRACK_0 = "nesw";
    private static final String TRACK_1 = "NESW";

    private Drawn() {
    }

    /** The cells have registers, so that there is no ring, and tables that give 0 always. */
    static TileArray circuit(String text) {
        TileArray x = new TileArray();
        int cells = 0;
        for (String part : text.split(" ")) {
            if (part.startsWith("@")) {
                int cell = x.cell(0, true, false);
                must(cell == cells && (part.equals("@-") || x.fix(cell, number(part, 1))), part);
                cells++;
            }
        }
        connect(x, text);
        return x;
    }

    /** Makes the sinks of a text alone, in an array that has the cells. */
    static void connect(TileArray x, String text) {
        for (String part : text.split(" ")) {
            int equals = part.indexOf('=');
            if (part.startsWith("o")) {
                must(x.output(part.charAt(1) - '0', number(part, equals + 1)), part);
            } else if (equals > 0) {
                must(x.connect(part.charAt(0) - '0', part.charAt(2) - '0',
                        number(part, equals + 1)), part);
            }
        }
    }

    /** How all tiles are switched, whatever their first ten bits are. */
    static String switches(TileArray x) {
        StringBuilder text = new StringBuilder();
        for (int tile = 0; tile < Grid.TILES; tile++) {
            String of = switchesOf(x.bits(tile));
            if (!of.isEmpty()) {
                text.append(text.length() > 0 ? "; " : "").append(tile).append(of);
            }
        }
        return text.toString();
    }

    /** Loads the tiles that a text of switches names, and gives their first ten bits. */
    static void load(TileArray x, String text, long firstTen) {
        for (String part : text.split("; ")) {
            String[] words = part.split(" ");
            long bits = firstTen;
            for (int i = 1; i < words.length; i++) {
                bits |= switchFrom(words[i].charAt(0), words[i].charAt(2));
            }
            must(x.load(number(words[0], 0), bits), part);
        }
    }

    private static long switchFrom(char what, char from) {
        if (what >= '0' && what <= '2') {
            return Due.pin(what - '0', from == 'o' ? 1 : 2 + place(from));
        }
        int turns = (place(from == 'o' ? what : from) - place(what) + Grid.PLACES) % Grid.PLACES;
        must(turns % 2 == 0, "a switch to the other track");
        return Due.channel(place(what), 1 + turns / 2);
    }

    private static int place(char letter) {
        int direction = Math.max(TRACK_0.indexOf(letter), TRACK_1.indexOf(letter));
        must(direction >= 0, "direction " + letter);
        return 2 * direction + (TRACK_1.indexOf(letter) >= 0 ? 1 : 0);
    }

    /** The tiles of the cells, in order. */
    static String tiles(TileArray x, int cells) {
        StringBuilder text = new StringBuilder();
        for (int cell = 0; cell < cells; cell++) {
            text.append(cell > 0 ? " " : "").append(x.tileOf(cell));
        }
        return text.toString();
    }

    private static String switchesOf(long bits) {
        StringBuilder text = new StringBuilder();
        for (int pin = 0; pin < 3; pin++) {
            int setting = (int) (bits >> 10 + 4 * pin & 15);
            if (setting > 0) {
                text.append(' ').append(pin).append('<')
                        .append(setting == 1 ? 'o' : letter(setting - 2));
            }
        }
        for (int place = 0; place < Grid.PLACES; place++) {
            int setting = (int) (bits >> 22 + 3 * place & 7);
            if (setting > 0) {
                text.append(' ').append(letter(place)).append('<').append(
                        setting == 1 ? 'o' : letter((place + 2 * (setting - 1)) % Grid.PLACES));
            }
        }
        return text.toString();
    }

    private static char letter(int place) {
        return (place % 2 == 0 ? TRACK_0 : TRACK_1).charAt(place / 2);
    }

    private static int number(String part, int from) {
        return Integer.parseInt(part.substring(from));
    }

    private static void must(boolean taken, String part) {
        if (!taken) {
            throw new IllegalStateException("not taken: " + part);
        }
    }
}
