/** Promises 43 to 55. */
public final class ChambersTest {
    private static final Checks c = new Checks();
    private static final int LEAST = Integer.MIN_VALUE;
    private static final int MOST = Integer.MAX_VALUE;
    private static final String GOODS = "goods f 0 4 10 5 2;goods m 0 4 20 1 3;goods b -30 20 60 0 9";
    private static final String SMALL = "chamber a 2 3 2;door a 0 0;chamber k 1 2 -10;door k 0 1;" + GOODS;

    public static void main(String[] args) {
        temperatures();
        wrongNumbers();
        palletAt();
        storeProblem();
        wayLength();
        wayLengthAround();
        reachableCells();
        safeCells();
        obstacles();
        obstaclesAroundCorners();
        mostPairs();
        mostPairsApart();
        bestSetpoint();
        availableFor();
        c.end("ChambersTest");
    }

    /** Promises 43 to 46. */
    private static void temperatures() {
        ColdStores x = Checks.loaded(SMALL + ";pallet b;pallet b;pallet b");
        c.same("setpoint", x.setpoint(0), 2);
        c.same("setpoint", x.setpoint(1), -10);
        c.same("temperature", x.temperature(0), 20);
        c.same("temperature", x.temperature(1), -100);
        c.same("temperatureAfter(0, 0)", x.temperatureAfter(0, 0), 20);
        c.same("temperatureAfter(0, 1)", x.temperatureAfter(0, 1), 22);
        c.same("temperatureAfter(1, 99)", x.temperatureAfter(1, 99), 98);
        c.badArgument("temperatureAfter(0, 100)", () -> x.temperatureAfter(0, 100));
        c.badArgument("temperatureAfter(0, -1)", () -> x.temperatureAfter(0, -1));
        c.noIndex("the chamber is checked first", () -> x.temperatureAfter(2, -1));
        x.store(0, 1, 0, 0);
        x.store(1, 1, 0, 1);
        x.retrieve(1);
        c.same("openings", x.openings(1), 3);
        c.same("openings", x.openings(0), 0);
        c.same("only by nights", x.temperature(1), -100);
        c.same("instead of 3", x.temperatureAfter(1, 1), -98);
        x.advance(1);
        c.same("12 / 2", x.temperature(1), -94);
        c.same("openings", x.openings(1), 0);
        c.same("setpoint", x.setpoint(1), -10);
        c.same("(6 + 0) / 2", x.temperatureAfter(1, 0), -97);
        c.same("(6 + 4) / 2", x.temperatureAfter(1, 1), -95);
        x.advance(1);
        c.same("3", x.temperature(1), -97);
        c.same("3 / 2 rounded down", x.temperatureAfter(1, 0), -99);
        x.setSetpoint(1, -30);
        c.same("the warming stays", x.temperature(1), -297);
        x.advance(2);
        c.same("no warming", x.temperature(1), -300);
    }

    private static void wrongNumbers() {
        ColdStores x = Checks.loaded(SMALL + ";pallet b;order b 1 1");
        for (int wrong : new int[] {-1, 2, 3, LEAST, MOST}) {
            c.noIndex("setpoint " + wrong, () -> x.setpoint(wrong));
            c.noIndex("temperature " + wrong, () -> x.temperature(wrong));
            c.noIndex("temperatureAfter " + wrong, () -> x.temperatureAfter(wrong, 1));
            c.noIndex("openings " + wrong, () -> x.openings(wrong));
            c.noIndex("palletAt " + wrong, () -> x.palletAt(wrong, 0, 0));
            c.noIndex("palletAt " + wrong, () -> x.palletAt(wrong, -1, 0));
            c.noIndex("storeProblem " + wrong, () -> x.storeProblem(wrong, 0, 0, 0));
            c.noIndex("storeProblem " + wrong, () -> x.storeProblem(0, wrong, 0, 0));
            c.noIndex("storeProblem " + wrong, () -> x.storeProblem(wrong, 0, 7, 0));
            c.noIndex("storeProblem " + wrong, () -> x.storeProblem(0, wrong, 7, 0));
            c.noIndex("wayLength " + wrong, () -> x.wayLength(wrong, 0, 0));
            c.noIndex("wayLength " + wrong, () -> x.wayLength(wrong, 7, 0));
            c.noIndex("reachableCells " + wrong, () -> x.reachableCells(wrong));
            c.noIndex("safeCells " + wrong, () -> x.safeCells(wrong, 0));
            c.noIndex("obstacles " + wrong, () -> x.obstacles(wrong));
            c.noIndex("mostPairs " + wrong, () -> x.mostPairs(wrong, 0, 1));
            c.noIndex("mostPairs " + wrong, () -> x.mostPairs(wrong, 0, 0));
            c.noIndex("bestSetpoint " + wrong, () -> x.bestSetpoint(wrong));
            c.noIndex("availableFor " + wrong, () -> x.availableFor(wrong));
        }
        for (int wrong : new int[] {-1, 3, 6, LEAST, MOST}) {
            c.noIndex("safeCells " + wrong, () -> x.safeCells(0, wrong));
            c.noIndex("mostPairs " + wrong, () -> x.mostPairs(0, wrong, 1));
            c.noIndex("mostPairs " + wrong, () -> x.mostPairs(0, 1, wrong));
            c.noIndex("mostPairs " + wrong, () -> x.mostPairs(0, wrong, wrong));
        }
        int[][] cells = {{2, 0}, {-1, 0}, {0, 3}, {0, -1}, {LEAST, 0}, {0, MOST}, {MOST, MOST}};
        for (int[] cell : cells) {
            c.badArgument("palletAt", () -> x.palletAt(0, cell[0], cell[1]));
            c.badArgument("storeProblem", () -> x.storeProblem(0, 0, cell[0], cell[1]));
            c.badArgument("wayLength", () -> x.wayLength(0, cell[0], cell[1]));
        }
        c.badArgument("a row of the other chamber", () -> x.palletAt(1, 1, 0));
        c.badArgument("a column of the other chamber", () -> x.palletAt(1, 0, 2));
        c.badArgument("mostPairs", () -> x.mostPairs(0, 1, 1));
    }

    /** Promise 47. */
    private static void palletAt() {
        ColdStores x = Checks.loaded(SMALL + ";pallet b;pallet b;pallet b");
        c.same("free", x.palletAt(0, 1, 1), -1);
        x.store(1, 0, 1, 1);
        c.same("the pallet", x.palletAt(0, 1, 1), 1);
        c.same("beside it", x.palletAt(0, 1, 0), -1);
        c.same("the other chamber", x.palletAt(1, 0, 1), -1);
        x.store(0, 1, 0, 0);
        c.same("the pallet 0", x.palletAt(1, 0, 0), 0);
        x.shift(1, 0, 2);
        c.same("away", x.palletAt(0, 1, 1), -1);
        c.same("shifted", x.palletAt(0, 0, 2), 1);
        x.retrieve(1);
        c.same("retrieved", x.palletAt(0, 0, 2), -1);
    }

    /** Promise 48. */
    private static void storeProblem() {
        ColdStores x = Checks.loaded("chamber a 2 3 2;door a 0 0;chamber n 1 1 2;" + GOODS
                + ";pallet f;pallet m;pallet b;pallet b;pallet f");
        c.same("none", x.storeProblem(0, 0, 1, 2), 0);
        c.same("a chamber without a door", x.storeProblem(0, 1, 0, 0), 4);
        x.store(0, 0, 1, 2);
        c.same("1 is first", x.storeProblem(0, 0, 1, 2), 1);
        c.same("1", x.storeProblem(0, 0, 0, 0), 1);
        c.same("2", x.storeProblem(1, 0, 1, 2), 2);
        c.same("3: f taints m", x.storeProblem(1, 0, 1, 1), 3);
        c.same("3: above", x.storeProblem(1, 0, 0, 2), 3);
        c.same("diagonal", x.storeProblem(1, 0, 0, 1), 0);
        c.same("the same goods", x.storeProblem(4, 0, 1, 1), 0);
        c.same("goods that do not mind", x.storeProblem(2, 0, 1, 1), 0);
        x.store(1, 0, 1, 0);
        c.same("3: m is tainted by it", x.storeProblem(4, 0, 1, 1), 3);
        c.same("3 before 4", x.storeProblem(4, 0, 0, 0), 3);
        x.store(2, 0, 0, 0);
        c.same("4", x.storeProblem(3, 0, 0, 1), 4);
        c.same("3 before 4", x.storeProblem(4, 0, 1, 1), 3);
        c.same("2 before 3", x.storeProblem(4, 0, 1, 0), 2);
        x.ship(3);
        c.same("shipped", x.storeProblem(3, 0, 0, 1), 1);
        c.same("asking changes nothing", x.undoCount(), 4);
    }

    /** Promise 49. */
    private static void wayLength() {
        ColdStores x = Checks.loaded("chamber a 2 3 2;door a 0 0;chamber n 1 1 2;" + GOODS + ";pallet b;pallet b");
        c.same("a door's cell", x.wayLength(0, 0, 0), 1);
        c.same("the farthest", x.wayLength(0, 1, 2), 4);
        c.noElement("no door", () -> x.wayLength(1, 0, 0));
        x.store(0, 0, 0, 1);
        c.noElement("not free", () -> x.wayLength(0, 0, 1));
        c.same("around it", x.wayLength(0, 0, 2), 5);
        x.store(1, 0, 1, 1);
        c.noElement("no way", () -> x.wayLength(0, 0, 2));
        c.noElement("no way", () -> x.wayLength(0, 1, 2));
        c.same("a way", x.wayLength(0, 1, 0), 2);
        x.retrieve(1);
        x.store(1, 0, 0, 0);
        c.noElement("the door's cell is not free", () -> x.wayLength(0, 0, 2));
        c.badArgument("no such row", () -> x.wayLength(0, 2, 0));
    }

    private static void wayLengthAround() {
        ColdStores x = Checks.loaded("chamber a 6 4 2;door a 0 0;" + GOODS
                + ";pallet b;pallet b;pallet b;pallet b;pallet b;pallet b");
        x.store(0, 0, 1, 0);
        x.store(1, 0, 1, 1);
        x.store(2, 0, 1, 2);
        c.same("the end of a row is not beside the next", x.wayLength(0, 1, 3), 5);
        c.same("behind the wall", x.wayLength(0, 2, 0), 9);
        x.store(3, 0, 3, 3);
        x.store(4, 0, 3, 2);
        x.store(5, 0, 3, 1);
        c.same("a snake", x.wayLength(0, 5, 3), 15);
        c.same("below the wall", x.wayLength(0, 4, 3), 14);
        x.arrive(2);
        x.store(6, 0, 3, 0);
        c.noElement("walled off", () -> x.wayLength(0, 4, 0));
        c.same("reachableCells", x.reachableCells(0), 0b1111_1000_1111);

        ColdStores y = Checks.loaded("chamber a 4 4 2;door a 0 0;door a 3 3;" + GOODS);
        c.same("the nearer door", y.wayLength(0, 2, 3), 2);
        c.same("the nearer door", y.wayLength(0, 1, 1), 3);
        c.same("between", y.wayLength(0, 0, 3), 4);
    }

    /** Promise 50. */
    private static void reachableCells() {
        ColdStores x = Checks.loaded("chamber a 6 4 2;chamber k 3 3 1;door k 1 1;" + GOODS + ";pallet b;pallet b");
        c.same("no door", x.reachableCells(0), 0);
        c.same("all", x.reachableCells(1), 511);
        x.store(0, 1, 0, 1);
        c.same("but for a cell", x.reachableCells(1), 509);
        x.store(1, 1, 1, 1);
        c.same("the only door is blocked", x.reachableCells(1), 0);
        ColdStores y = Checks.loaded("chamber a 6 4 2;door a 5 3;goods b -30 20 60 0 9");
        c.same("24 cells", y.reachableCells(0), (1 << 24) - 1);
    }

    /** Promise 51. */
    private static void safeCells() {
        ColdStores x = Checks.loaded("chamber a 3 3 2;chamber k 3 3 1;door k 1 1;" + GOODS + ";pallet m;pallet f;pallet b");
        c.same("ways do not matter", x.safeCells(0, 0), 511);
        x.store(0, 1, 0, 0);
        c.same("f beside m", x.safeCells(1, 0), 0b111_110_100);
        c.same("m beside m", x.safeCells(1, 1), 510);
        c.same("b beside m", x.safeCells(1, 2), 510);
        x.store(1, 1, 2, 2);
        c.same("m beside f", x.safeCells(1, 1), 0b001_011_110);
        c.same("f beside both", x.safeCells(1, 0), 0b011_110_100);
        x.store(2, 1, 1, 1);
        c.same("f, with b", x.safeCells(1, 0), 0b011_100_100);
        c.same("the ends of rows", x.safeCells(0, 1), 511);
    }

    /** Promise 52. */
    private static void obstacles() {
        ColdStores x = Checks.loaded("chamber a 1 4 2;door a 0 0;" + GOODS + ";pallet b;pallet b;pallet b;pallet b");
        c.badState("waiting", () -> x.obstacles(0));
        x.store(0, 0, 0, 3);
        c.same("none", x.obstacles(0), 0);
        x.store(1, 0, 0, 1);
        c.same("one", x.obstacles(0), 1);
        c.same("none", x.obstacles(1), 0);
        x.store(2, 0, 0, 0);
        c.same("two", x.obstacles(0), 2);
        c.same("one", x.obstacles(1), 1);
        c.same("in the door's cell", x.obstacles(2), 0);
        c.noIndex("no pallet", () -> x.obstacles(4));
        x.ship(3);
        c.badState("shipped", () -> x.obstacles(3));
    }

    private static void obstaclesAroundCorners() {
        ColdStores x = Checks.loaded("chamber a 2 4 2;door a 1 0;" + GOODS
                + ";pallet b;pallet b;pallet b;pallet b;pallet b;pallet b;pallet b");
        x.store(0, 0, 1, 3);
        x.store(1, 0, 1, 2);
        x.store(2, 0, 1, 1);
        c.same("around, through free cells", x.obstacles(0), 0);
        x.store(3, 0, 0, 3);
        c.same("over one", x.obstacles(0), 1);
        x.store(4, 0, 0, 2);
        c.same("over two", x.obstacles(0), 2);
        x.store(5, 0, 0, 1);
        c.same("not beyond the edge", x.obstacles(0), 2);
        x.store(6, 0, 1, 0);
        c.same("over the door's cell too", x.obstacles(0), 3);

        ColdStores y = Checks.loaded("chamber a 3 3 2;door a 0 0;door a 2 2;" + GOODS
                + ";pallet b;pallet b;pallet b;pallet b;pallet b");
        y.store(0, 0, 1, 1);
        y.store(1, 0, 0, 1);
        y.store(2, 0, 1, 0);
        y.store(3, 0, 0, 0);
        c.same("from the other door", y.obstacles(0), 0);
        y.store(4, 0, 2, 2);
        c.same("through one door's cell", y.obstacles(0), 1);
    }

    /** Promise 53, from here on: goods that may stand side by side. */
    private static void mostPairs() {
        ColdStores x = Checks.loaded(SMALL + ";pallet b;pallet b;pallet f;pallet m");
        c.same("6 cells", x.mostPairs(0, 2, 1), 3);
        c.same("2 cells", x.mostPairs(1, 2, 0), 1);
        x.store(0, 0, 0, 0);
        c.same("5 cells", x.mostPairs(0, 2, 1), 2);
        c.same("ways do not matter", x.mostPairs(0, 1, 2), 2);
        x.store(1, 1, 0, 0);
        c.same("1 cell", x.mostPairs(1, 2, 0), 0);
        x.undo();
        x.undo();
        x.store(2, 0, 0, 1);
        c.same("m has 2 cells there", x.mostPairs(0, 1, 2), 2);
        c.same("b has more", x.mostPairs(0, 2, 1), 2);
        c.same("f beside f", x.mostPairs(0, 2, 0), 2);

        ColdStores y = Checks.loaded("chamber u 1 4 0;door u 0 0;goods b 0 4 9 0 9;goods p 0 4 9 3 9;"
                + "goods q 0 4 9 0 0;pallet p");
        y.store(0, 0, 0, 1);
        c.same("one cell for q", y.mostPairs(0, 0, 2), 1);
        c.same("one cell for q", y.mostPairs(0, 2, 0), 1);
        y.shift(0, 0, 2);
        c.same("one cell for q", y.mostPairs(0, 2, 0), 1);

        ColdStores z = Checks.loaded("chamber u 6 1 0;door u 0 0;goods b 0 4 9 0 9;goods p 0 4 9 3 9;"
                + "goods q 0 4 9 0 0;pallet p;pallet p");
        z.store(0, 0, 3, 0);
        z.store(1, 0, 1, 0);
        c.same("four cells for b, one of them for q", z.mostPairs(0, 0, 2), 1);
        c.same("one cell for q", z.mostPairs(0, 2, 0), 1);
    }

    private static void mostPairsApart() {
        ColdStores x = Checks.loaded("chamber a 2 3 2;door a 1 1;chamber k 6 4 1;door k 0 0;chamber l 3 3 1;"
                + "door l 1 1;" + GOODS + ";pallet b;pallet f;pallet m;pallet b;pallet b");
        c.same("a column between", x.mostPairs(0, 0, 1), 2);
        c.same("the other way round", x.mostPairs(0, 1, 0), 2);
        c.same("3 by 3: a diagonal between", x.mostPairs(2, 0, 1), 3);
        c.same("6 by 4", x.mostPairs(1, 0, 1), 10);
        c.same("6 by 4, mixed", x.mostPairs(1, 0, 2), 12);
        x.store(0, 2, 1, 1);
        c.same("a pallet in the middle", x.mostPairs(2, 0, 1), 3);
        x.store(1, 0, 0, 0);
        c.same("beside f", x.mostPairs(0, 0, 1), 1);
        x.store(2, 0, 1, 2);
        c.same("f and m in opposite corners", x.mostPairs(0, 0, 1), 1);
        x.store(3, 0, 0, 2);
        c.same("a corner less", x.mostPairs(0, 0, 1), 0);

        ColdStores y = Checks.loaded("chamber u 1 1 2;chamber v 1 2 2;chamber w 1 3 2;" + GOODS);
        c.same("1 cell", y.mostPairs(0, 0, 1), 0);
        c.same("2 cells", y.mostPairs(1, 0, 1), 0);
        c.same("3 cells", y.mostPairs(2, 0, 1), 1);
    }

    /** Promise 54. */
    private static void bestSetpoint() {
        ColdStores x = Checks.loaded("chamber a 2 3 20;door a 0 0;goods f 0 4 10 0 0;goods m 3 9 20 0 0;"
                + "goods b -30 -10 60 0 0;pallet f;pallet m;pallet m;pallet b;pallet b;pallet b");
        c.same("without pallets", x.bestSetpoint(0), -30);
        x.store(0, 0, 1, 2);
        c.same("f", x.bestSetpoint(0), 0);
        x.store(1, 0, 1, 1);
        c.same("f and m", x.bestSetpoint(0), 3);
        x.store(3, 0, 1, 0);
        x.store(4, 0, 0, 2);
        c.same("two and two: the lowest", x.bestSetpoint(0), -30);
        x.store(2, 0, 0, 1);
        c.same("three", x.bestSetpoint(0), 3);
        x.store(5, 0, 0, 0);
        c.same("three and three", x.bestSetpoint(0), -30);
        ColdStores y = Checks.loaded("chamber a 1 1 0;door a 0 0;goods w 20 20 9 0 0;pallet w");
        y.store(0, 0, 0, 0);
        c.same("20", y.bestSetpoint(0), 20);
    }

    /** Promise 55. */
    private static void availableFor() {
        ColdStores x = Checks.loaded("chamber a 1 4 0;door a 0 0;goods b 0 12 5 0 0;goods d 0 12 60 0 0;"
                + "pallet b;pallet b;pallet d;pallet b;order b 9 0;order b 1 0;order d 1 0");
        c.same("more than the order wants", x.availableFor(1), 3);
        c.same("fewer than the order wants", x.availableFor(0), 3);
        c.same("other goods", x.availableFor(2), 1);
        x.store(0, 0, 0, 3);
        x.store(1, 0, 0, 1);
        c.same("one behind another", x.availableFor(1), 3);
        x.store(2, 0, 0, 0);
        c.same("behind other goods", x.availableFor(1), 1);
        c.same("the other goods", x.availableFor(2), 1);
        x.retrieve(2);
        c.same("serve", x.serve(1), 0 + 1);
        c.same("served", x.availableFor(1), 2);
        x.advance(1);
        c.same("after the due day", x.availableFor(0), 2);
        c.same("nothing is changed", x.shippedCount(), 1);
        x.advance(5);
        c.same("spoiled", x.availableFor(0), 0);
        c.same("not spoiled", x.availableFor(2), 1);
    }
}
