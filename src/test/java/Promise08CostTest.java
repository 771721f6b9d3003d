/** Promise 8: cost. */
public final class Promise08CostTest {
    public static void main(String[] args) {
        Due due = new Due("Promise08CostTest");
        spans(due);
        latestBuilding(due);
        due.end();
    }

    private static void spans(Due due) {
        TileArray x = new TileArray();
        x.cell(2, false, false);
        x.cell(2, false, false);
        x.build();
        due.is("cost() without nets", x.cost(), 0);
        x.fix(0, 5);
        x.fix(1, 14);
        x.connect(1, 0, 0);
        x.build();
        due.is("cost(): row 1 to 3, column 1 to 2", x.cost(), 3);
        x.connect(1, 2, 0);
        x.build();
        due.is("cost(): the same tiles again", x.cost(), 3);
        x.output(0, 0);
        x.build();
        due.is("cost(): row 0 to 3, column 1 to 3", x.cost(), 5);
        x.connect(0, 1, 13);
        x.build();
        due.is("cost(): and from row 3, column 0", x.cost(), 5 + 3);
        x.output(3, 10);
        x.build();
        due.is("cost(): and an input to an output", x.cost(), 5 + 3 + 6);
        x.output(2, 12);
        x.build();
        due.is("cost(): and along row 2", x.cost(), 5 + 3 + 6 + 3);
    }

    private static void latestBuilding(Due due) {
        TileArray x = new TileArray();
        due.is("cost() before build()", x.cost(), 0);
        x.build();
        due.is("cost() behind a refused build()", x.cost(), 0);
        x.cell(2, false, false);
        x.fix(0, 0);
        x.output(3, 0);
        x.build();
        due.is("cost()", x.cost(), 6);
        x.fix(0, 15);
        due.is("cost(), fixed anew", x.cost(), 6);
        x.connect(0, 0, 0);
        x.build();
        due.is("cost() behind a refused build()", x.cost(), 6);
        x.connect(0, 0, -1);
        x.build();
        due.is("cost() behind the next build()", x.cost(), 0);
    }
}
