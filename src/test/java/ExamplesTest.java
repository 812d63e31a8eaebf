/** The examples of the document, call by call. */
public final class ExamplesTest {
    private static final Checks c = new Checks();

    public static void main(String[] args) {
        first();
        second();
        third();
        c.end("ExamplesTest");
    }

    private static ColdStores setUp() {
        ColdStores x = new ColdStores();
        c.same("append 1", x.append(1667785069, 1650815520, 1629499680, 857748027, 1685024626), 20);
        c.same("append 2", x.append(543236144, 540031847, 1869571187, 543563824, 540287029), 40);
        c.same("append 3", x.append(540221488, 996634479, 1685266541, 540024884, 540352560), 60);
        c.same("append 4", x.append(540097392, 1634495589, 1948280379, 1885432940, 1702109293), 80);
        c.same("load", x.load(), 2);
        return x;
    }

    private static void first() {
        ColdStores x = setUp();
        c.same("store", x.store(0, 0, 0, 2), 3);
        c.same("storeProblem", x.storeProblem(1, 0, 0, 1), 3);
        c.same("storeProblem", x.storeProblem(1, 0, 0, 0), 0);
        c.same("wayLength", x.wayLength(0, 0, 1), 2);
    }

    private static void second() {
        ColdStores x = setUp();
        c.same("advance", x.advance(1), 0);
        c.same("taint", x.taint(1), 2);
        c.same("daysLeft", x.daysLeft(1), 1);
        c.same("heat", x.heat(0), 80);
    }

    private static void third() {
        ColdStores x = setUp();
        c.same("autoStore", x.autoStore(), 2);
        c.same("cellOf", x.cellOf(0), 2);
        c.same("cellOf", x.cellOf(1), 0);
        c.same("obstacles", x.obstacles(0), 1);
        c.same("undo", x.undo(), 0);
    }
}
