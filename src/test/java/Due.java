/** Compares answers with those that are due, and tells the wrong ones. */
final class Due {
    // The channels of a tile, as places in the order of the wires.
    static final int NORTH = 0;
    static final int EAST = 2;
    static final int SOUTH = 4;
    static final int WEST = 6;

    private final String test;
    private String sentence = "";
    private int sentences;
    private int checks;
    private int wrong;

    Due(String test) {
        this.test = test;
    }

    /** Names the sentence of the document that the next answers are about. */
    void sentence(String words) {
        sentence = " [" + words + "]";
        sentences++;
    }

    void is(String call, long got, long due) {
        note(call, got == due, Long.toString(got), Long.toString(due));
    }

    void is(String call, double got, double due) {
        note(call, got == due, Double.toString(got), Double.toString(due));
    }

    void is(String call, boolean got, boolean due) {
        note(call, got == due, Boolean.toString(got), Boolean.toString(due));
    }

    void is(String call, String got, String due) {
        note(call, got.equals(due), got, due);
    }

    /** Ends the test: with exit code 1 if an answer was wrong, or none was asked for. */
    void end() {
        String about = sentences > 0 ? " about " + sentences + " sentences" : "";
        System.out.println(test + ": " + checks + " answers" + about + ", " + wrong
                + " of them wrong");
        if (wrong > 0 || checks == 0) {
            System.exit(1);
        }
    }

    int wrong() {
        return wrong;
    }

    private void note(String call, boolean right, String got, String due) {
        checks++;
        if (!right) {
            wrong++;
            System.out.println(test + ": " + call + " answered " + got + ", due is " + due
                    + sentence);
        }
    }

    /** The bits of a tile with a table alone. */
    static long table(int table) {
        return table;
    }

    static long register(boolean first) {
        return 256L + (first ? 512L : 0L);
    }

    /** The bits that switch a pin. */
    static long pin(int pin, int setting) {
        return (long) setting << 10 + 4 * pin;
    }

    /** The bits that switch a channel, by its place among the tile's channels. */
    static long channel(int place, int setting) {
        return (long) setting << 22 + 3 * place;
    }

    /** The setting by which a pin gets what comes in from there, by place of the channels. */
    static int from(int place) {
        return 2 + place;
    }
}
