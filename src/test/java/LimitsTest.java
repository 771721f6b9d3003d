import java.io.IOException;
import java.nio.file.Files;
import java.nio.file.Path;

/**
 * The two limits of a building. No run is known that makes 20 passes which exchange something, so
 * that no answer tells this limit: it is looked up in the class itself, and so is that of the
 * rounds, which BoundsRoutingTest sees from outside, too.
 */
public final class LimitsTest {
    public static void main(String[] args) throws IOException {
        Due due = new Due("LimitsTest");
        String text = Files.readString(Path.of("src/main/java/TileArray.java"));
        due.sentence("passes go on until one exchanges nothing, or 20 were made");
        limit(due, text, "int MOST_PASSES = 20;",
                "for (int pass = 0; pass < MOST_PASSES; pass++) {");
        due.sentence("ROUTING goes in rounds, at most 12");
        limit(due, text, "int MOST_ROUNDS = 12;",
                "for (int round = 1; round <= MOST_ROUNDS; round++) {");
        due.end();
    }

    /** The constant stands once in the class, and so does the one loop that it bounds. */
    private static void limit(Due due, String text, String constant, String loop) {
        String name = constant.substring(4, constant.indexOf(" ="));
        due.is("how often there is " + constant, count(text, constant), 1);
        due.is("how often there is " + loop, count(text, loop), 1);
        due.is("how often there is " + name, count(text, name), 2);
    }

    private static int count(String text, String part) {
        int found = 0;
        for (int at = text.indexOf(part); at >= 0; at = text.indexOf(part, at + 1)) {
            found++;
        }
        return found;
    }
}
