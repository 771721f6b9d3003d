/** Promise 16: slack. */
public final class Promise16SlackTest {
    public static void main(String[] args) {
        Due due = new Due("Promise16SlackTest");
        ofWay(due);
        ofRing(due);
        due.end();
    }

    private static void ofWay(Due due) {
        TileArray x = new TileArray();
        due.is("slack(2.5) of nothing", x.slack(2.5), 2.5);
        x.load(3, Due.channel(Due.EAST, 1));
        due.is("slack(2.5)", x.slack(2.5), 1.5);
        due.is("slack(1.0)", x.slack(1.0), 0.0);
        due.is("slack(0.25)", x.slack(0.25), -0.75);
        due.is("slack(0.1)", x.slack(0.1), 0.1 - 1.0);
        due.is("slack(the least above 0)", x.slack(Double.MIN_VALUE), -1.0);
        due.is("slack(infinite)", x.slack(Double.POSITIVE_INFINITY), Double.POSITIVE_INFINITY);
        double[] notAbove = {0.0, -0.0, -1.0, -100.0, Double.NEGATIVE_INFINITY, Double.NaN};
        for (double period : notAbove) {
            due.is("slack(" + period + ")", x.slack(period), -1.0);
        }
        x.load(3, 0);
        due.is("slack(0.0) of nothing", x.slack(0.0), -1.0);
        due.is("slack(0.125) of nothing", x.slack(0.125), 0.125);
    }

    private static void ofRing(Due due) {
        TileArray x = new TileArray();
        x.load(0, Due.pin(0, 1));
        double[] periods = {100.0, 0.5, 0.0, -3.0, Double.POSITIVE_INFINITY, Double.NaN};
        for (double period : periods) {
            due.is("slack(" + period + ") of a ring", x.slack(period), -1.0);
        }
    }
}
