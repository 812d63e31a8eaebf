/** A test for each sentence of promises 43 to 55 that names a boundary. */
public final class ChambersEdgesTest {
    private static final Checks c = new Checks();
    private static final int LEAST = Integer.MIN_VALUE;
    private static final int MOST = Integer.MAX_VALUE;
    /** p taints q; n neither taints nor is tainted. */
    private static final String PQN = "goods p 0 4 60 9 0;goods q 0 4 60 0 0;goods n 0 4 60 0 9";
    /** Two chambers of different sizes. */
    private static final String TWO = "chamber u 2 3 2;door u 0 0;chamber v 1 2 -3;door v 0 1;" + PQN;
    private static final String NO_CHAMBER = "Throws IndexOutOfBoundsException if the chamber does not exist";
    private static final String NO_CELL = "Throws IllegalArgumentException if the chamber has no such row or column";
    private static final String PROBLEMS = "Returns 1 if the pallet is not waiting; 2 if the cell is not free; 3 if a"
            + " pallet in a neighbouring cell and this one would taint one another in either direction; 4 if there is"
            + " no free way to the cell; otherwise 0.";
    private static final String NO_WAY = "Throws NoSuchElementException if there is no free way to the cell, in"
            + " particular if the cell is not free";

    public static void main(String[] args) throws java.io.IOException {
        c.runAll(ChambersEdgesTest.class);
        c.covered(43, 55);
        c.end("ChambersEdgesTest");
    }

    private static String times(int count, String text) {
        return text.repeat(count);
    }

    private interface Question {
        long ask(ColdStores x, int number);
    }

    private interface CellQuestion {
        long ask(ColdStores x, int chamber, int row, int column);
    }

    /** A question about chambers, asked of no chambers, of one, two and three. */
    private static void chamberNumbers(String name, Question question) {
        String[] chambers = {"", ";chamber u 1 1 0", ";chamber u 1 1 0;chamber v 6 4 0",
            ";chamber u 1 1 0;chamber v 6 4 0;chamber w 2 2 0"};
        for (int count = 0; count <= 3; count++) {
            ColdStores x = Checks.loaded(PQN + chambers[count] + ";pallet n;order n 1 1");
            c.numbers(name + " of " + count, count, number -> question.ask(x, number));
        }
        ColdStores none = new ColdStores();
        c.noIndex(name + " in a new object", none, () -> question.ask(none, 0));
    }

    /** Every row and column from -2 to beyond the last one, in both chambers. */
    private static void cells(String name, CellQuestion question) {
        ColdStores x = Checks.loaded(TWO + ";pallet n");
        int[] rows = {2, 1};
        int[] columns = {3, 2};
        int[] far = {LEAST, LEAST + 1, -2, -1, 6, 24, 256, MOST};
        for (int chamber = 0; chamber < 2; chamber++) {
            int one = chamber;
            for (int row = -2; row < 8; row++) {
                for (int column = -2; column < 6; column++) {
                    int r = row;
                    int s = column;
                    String cell = name + " of chamber " + chamber + ", " + row + " " + column;
                    boolean there = row >= 0 && row < rows[chamber] && column >= 0 && column < columns[chamber];
                    if (!there) {
                        c.badArgument(cell, () -> question.ask(x, one, r, s));
                    } else {
                        c.yes(cell, question.ask(x, one, r, s) >= -1);
                    }
                }
            }
            for (int wrong : far) {
                c.badArgument(name + ", row " + wrong, () -> question.ask(x, one, wrong, 0));
                c.badArgument(name + ", column " + wrong, () -> question.ask(x, one, 0, wrong));
                c.badArgument(name + ", both " + wrong, () -> question.ask(x, one, wrong, wrong));
            }
        }
        c.badArgument(name + " changes nothing", x, () -> question.ask(x, 0, 2, 0));
    }

    // ---- promises 43 to 46

    static void setpoints() {
        c.about("Promise 43", "Returns the setpoint in degrees.");
        ColdStores x = Checks.loaded("chamber u 1 1 -30;door u 0 0;chamber v 1 1 20;" + PQN + ";pallet n");
        c.same("the coldest", x.setpoint(0), -30);
        c.same("the warmest", x.setpoint(1), 20);
        x.store(0, 0, 0, 0);
        x.advance(1);
        c.same("warming does not matter", x.setpoint(0), -30);
    }

    static void setpointOfNoChamber() {
        c.about("Promise 43", NO_CHAMBER);
        chamberNumbers("setpoint", (x, chamber) -> x.setpoint(chamber));
    }

    static void temperatures() {
        c.about("Promise 44", "Returns the temperature in tenths of a degree.");
        ColdStores x = Checks.loaded("chamber u 1 1 -30;door u 0 0;chamber v 1 1 20;" + PQN + ";pallet n");
        c.same("the coldest", x.temperature(0), -300);
        c.same("the warmest", x.temperature(1), 200);
        x.store(0, 0, 0, 0);
        c.same("not warmer before the night", x.temperature(0), -300);
        x.advance(1);
        c.same("warmer", x.temperature(0), -298);
        x.setSetpoint(0, 0);
        c.same("the warming stays", x.temperature(0), 2);
    }

    static void temperatureOfNoChamber() {
        c.about("Promise 44", NO_CHAMBER);
        chamberNumbers("temperature", (x, chamber) -> x.temperature(chamber));
    }

    static void openingsAsked() {
        c.about("Promise 45", "- openings: 0 to 99");
        ColdStores x = Checks.loaded("chamber u 1 1 -30;door u 0 0;" + PQN + ";pallet n");
        c.same("0", x.temperatureAfter(0, 0), -300);
        c.same("1", x.temperatureAfter(0, 1), -298);
        c.same("99", x.temperatureAfter(0, 99), -300 + 198);
    }

    static void temperatureAfterANight() {
        c.about("Promise 45", "Returns the temperature in tenths of a degree.");
        ColdStores x = Checks.loaded("chamber u 1 1 0;door u 0 0;" + PQN + ";pallet n");
        x.store(0, 0, 0, 0);
        x.advance(2);
        c.same("a warming of 1", x.temperature(0), 1);
        c.same("1 / 2, rounded down", x.temperatureAfter(0, 0), 0);
        c.same("5 / 2, rounded down", x.temperatureAfter(0, 1), 2);
        c.same("397 / 2, rounded down", x.temperatureAfter(0, 99), 198);
        x.setSetpoint(0, -30);
        c.same("-300 and 2, not rounded together", x.temperatureAfter(0, 1), -298);
        c.same("nothing happens by asking", x.temperature(0), -299);
    }

    static void insteadOfTodaysOpenings() {
        c.about("Promise 45", "if its doors were opened so many times today (instead of as often as they were).");
        ColdStores x = Checks.loaded("chamber u 1 1 0;door u 0 0;" + PQN + ";pallet n");
        for (int i = 0; i < 50; i++) {
            x.store(0, 0, 0, 0);
            x.retrieve(0);
        }
        c.same("openings", x.openings(0), 100);
        c.same("none", x.temperatureAfter(0, 0), 0);
        c.same("one", x.temperatureAfter(0, 1), 2);
        x.advance(1);
        c.same("all 100", x.temperature(0), 200);
    }

    static void temperatureAfterOfNoChamber() {
        c.about("Promise 45", NO_CHAMBER + " (checked first)");
        chamberNumbers("temperatureAfter", (x, chamber) -> x.temperatureAfter(chamber, 1));
        ColdStores x = Checks.loaded(TWO);
        c.noIndex("no chamber and no openings", x, () -> x.temperatureAfter(2, 100));
        c.noIndex("no chamber and no openings", x, () -> x.temperatureAfter(-1, -1));
    }

    static void temperatureAfterNoSuchOpenings() {
        c.about("Promise 45", "Throws IllegalArgumentException if openings is out of range");
        ColdStores x = Checks.loaded(TWO);
        for (int wrong : new int[] {LEAST, -1, 100, 256, MOST}) {
            c.badArgument("temperatureAfter(1, " + wrong + ")", x, () -> x.temperatureAfter(1, wrong));
        }
    }

    static void openingsOfToday() {
        c.about("Promise 46", "Returns the number.");
        ColdStores x = Checks.loaded(TWO + ";pallet n;pallet n;pallet n;order n 1 9");
        c.same("none", x.openings(0), 0);
        x.store(0, 0, 0, 0);
        c.same("store", x.openings(0), 1);
        x.shift(0, 0, 1);
        c.same("shift", x.openings(0), 1);
        x.retrieve(0);
        c.same("retrieve", x.openings(0), 2);
        c.same("autoStore", x.autoStore(), 3);
        c.same("three more", x.openings(0), 5);
        x.serve(0);
        c.same("serve", x.openings(0), 6);
        c.same("the other one", x.openings(1), 0);
        x.advance(1);
        c.same("the next day", x.openings(0), 0);
        x.undo();
        c.same("the day before", x.openings(0), 6);
    }

    static void openingsOfNoChamber() {
        c.about("Promise 46", NO_CHAMBER);
        chamberNumbers("openings", (x, chamber) -> x.openings(chamber));
    }

    // ---- promise 47: palletAt

    static void palletsInCells() {
        c.about("Promise 47", "Returns the number of the pallet; NONE if the cell is free.");
        ColdStores x = Checks.loaded(TWO + ";pallet n;pallet n");
        c.same("free", x.palletAt(0, 1, 2), -1);
        x.store(0, 0, 1, 2);
        x.store(1, 1, 0, 1);
        c.same("pallet 0", x.palletAt(0, 1, 2), 0);
        c.same("pallet 1", x.palletAt(1, 0, 1), 1);
        c.same("the same cell of the other", x.palletAt(0, 0, 1), -1);
        x.retrieve(0);
        c.same("free again", x.palletAt(0, 1, 2), -1);
        x.ship(0);
        c.same("still", x.palletAt(0, 1, 2), -1);
    }

    static void palletAtInNoChamber() {
        c.about("Promise 47", NO_CHAMBER + " (checked first)");
        chamberNumbers("palletAt", (x, chamber) -> x.palletAt(chamber, 0, 0));
        ColdStores x = Checks.loaded(TWO);
        c.noIndex("no chamber and no row", x, () -> x.palletAt(2, -1, 0));
        c.noIndex("no chamber and no column", x, () -> x.palletAt(-1, 0, 9));
    }

    static void palletAtNoCell() {
        c.about("Promise 47", NO_CELL);
        cells("palletAt", (x, chamber, row, column) -> x.palletAt(chamber, row, column));
    }

    // ---- promise 48: storeProblem

    static void problemOfWhatDoesNotWait() {
        c.about("Promise 48", PROBLEMS);
        ColdStores x = Checks.loaded(TWO + times(4, ";pallet n"));
        x.store(1, 0, 0, 0);
        x.ship(2);
        x.discard(3);
        c.same("waiting", x.storeProblem(0, 0, 1, 1) == 1 ? 1 : 0, 0);
        c.same("stored, in its own cell", x.storeProblem(1, 0, 0, 0), 1);
        c.same("stored, for a free cell", x.storeProblem(1, 1, 0, 0), 1);
        c.same("shipped", x.storeProblem(2, 1, 0, 0), 1);
        c.same("discarded", x.storeProblem(3, 1, 0, 0), 1);
    }

    static void problemOfACellThatIsNotFree() {
        c.about("Promise 48", PROBLEMS);
        ColdStores x = Checks.loaded(TWO + ";pallet p;pallet p;pallet q");
        x.store(0, 0, 0, 1);
        x.store(1, 0, 0, 0);
        c.same("before taint and way", x.storeProblem(2, 0, 0, 1), 2);
        c.same("before taint", x.storeProblem(2, 0, 0, 0), 2);
    }

    static void problemOfTaint() {
        c.about("Promise 48", PROBLEMS);
        ColdStores x = Checks.loaded("chamber u 3 3 0;door u 0 0;chamber v 3 3 0;door v 0 0;" + PQN
                + ";pallet p;pallet q;pallet p;pallet q;pallet n");
        x.store(0, 0, 1, 1);
        x.store(1, 1, 1, 1);
        int[][] beside = {{0, 1}, {1, 0}, {1, 2}, {2, 1}};
        int[][] corners = {{0, 0}, {0, 2}, {2, 0}, {2, 2}};
        for (int[] cell : beside) {
            c.same("q would be tainted", x.storeProblem(3, 0, cell[0], cell[1]), 3);
            c.same("p would taint", x.storeProblem(2, 1, cell[0], cell[1]), 3);
            c.same("p beside p", x.storeProblem(2, 0, cell[0], cell[1]), 0);
            c.same("n beside p", x.storeProblem(4, 0, cell[0], cell[1]), 0);
            c.same("n beside q", x.storeProblem(4, 1, cell[0], cell[1]), 0);
        }
        for (int[] cell : corners) {
            c.same("q at a corner", x.storeProblem(3, 0, cell[0], cell[1]), 0);
            c.same("p at a corner", x.storeProblem(2, 1, cell[0], cell[1]), 0);
        }
    }

    static void problemOfTheWay() {
        c.about("Promise 48", PROBLEMS);
        ColdStores x = Checks.loaded("chamber u 1 4 0;door u 0 0;chamber v 1 1 0;" + PQN + ";pallet n;pallet n;pallet q;"
                + "pallet p");
        c.same("without a door", x.storeProblem(0, 1, 0, 0), 4);
        x.store(3, 0, 0, 3);
        x.store(0, 0, 0, 1);
        c.same("behind another", x.storeProblem(1, 0, 0, 2), 4);
        c.same("taint before the way", x.storeProblem(2, 0, 0, 2), 3);
        c.same("before it", x.storeProblem(1, 0, 0, 0), 0);
    }

    static void firstProblemOfSeveral() {
        c.about("Promise 48", "The first code that applies is returned.");
        ColdStores x = Checks.loaded("chamber u 1 4 0;door u 0 0;" + PQN + ";pallet p;pallet n;pallet q;pallet q");
        x.store(0, 0, 0, 2);
        x.store(1, 0, 0, 0);
        c.same("3 before 4", x.storeProblem(2, 0, 0, 1), 3);
        c.same("2 before 4", x.storeProblem(2, 0, 0, 2), 2);
        c.same("3 before 4, on the other side", x.storeProblem(2, 0, 0, 3), 3);
        c.same("1 before 2", x.storeProblem(0, 0, 0, 0), 1);
        x.ship(2);
        c.same("1 before 3", x.storeProblem(2, 0, 0, 1), 1);
        c.same("2 before 3", x.storeProblem(3, 0, 0, 0), 2);
    }

    static void noProblem() {
        c.about("Promise 48", PROBLEMS);
        ColdStores x = Checks.loaded(TWO + ";pallet n");
        for (int cell = 0; cell < 6; cell++) {
            c.same("every cell of u", x.storeProblem(0, 0, cell / 3, cell % 3), 0);
        }
        x.setSetpoint(0, -30);
        c.same("temperatures do not matter", x.storeProblem(0, 0, 1, 1), 0);
        x.advance(60);
        c.same("nor does spoiling", x.storeProblem(0, 0, 1, 1), 0);
    }

    static void problemOfNoPalletOrChamber() {
        c.about("Promise 48", "Throws IndexOutOfBoundsException if the pallet or the chamber does not exist (checked"
                + " first)");
        chamberNumbers("storeProblem", (x, chamber) -> x.storeProblem(0, chamber, 0, 0));
        ColdStores x = Checks.loaded(TWO + ";pallet n;pallet n");
        c.numbers("storeProblem", 2, pallet -> x.storeProblem(pallet, 0, 0, 0));
        c.noIndex("no pallet and no row", x, () -> x.storeProblem(2, 0, 2, 0));
        c.noIndex("no chamber and no column", x, () -> x.storeProblem(0, 2, 0, 9));
        c.noIndex("neither", x, () -> x.storeProblem(-1, -1, 0, 0));
    }

    static void problemAtNoCell() {
        c.about("Promise 48", NO_CELL);
        cells("storeProblem", (x, chamber, row, column) -> x.storeProblem(0, chamber, row, column));
        ColdStores x = Checks.loaded(TWO + ";pallet n");
        x.ship(0);
        c.badArgument("even if the pallet is not waiting", x, () -> x.storeProblem(0, 0, 2, 0));
    }

    // ---- promise 49: wayLength

    static void lengthsOfWays() {
        c.about("Promise 49", "Returns the number of cells of the way.");
        ColdStores x = Checks.loaded("chamber u 6 4 0;door u 2 1;" + PQN);
        for (int cell = 0; cell < 24; cell++) {
            int due = Math.abs(cell / 4 - 2) + Math.abs(cell % 4 - 1) + 1;
            c.same("to cell " + cell, x.wayLength(0, cell / 4, cell % 4), due);
        }
    }

    static void longWay() {
        c.about("Promise 49", "Returns the number of cells of the way.");
        ColdStores x = Checks.loaded("chamber u 6 4 0;door u 5 0;door u 0 0;" + PQN + times(8, ";pallet n"));
        int[][] walls = {{1, 0}, {1, 1}, {1, 2}, {3, 1}, {3, 2}, {3, 3}, {5, 0}};
        for (int i = 0; i < 6; i++) {
            x.store(i, 0, walls[i][0], walls[i][1]);
        }
        c.same("from the near door", x.wayLength(0, 4, 0), 2);
        x.store(6, 0, 5, 0);
        c.same("from the far door", x.wayLength(0, 5, 3), 4 + 1 + 4 + 1 + 4 + 1);
        c.same("to the nearest cell below the second wall", x.wayLength(0, 3, 0), 10);
    }

    static void wayInNoChamber() {
        c.about("Promise 49", NO_CHAMBER + " (checked first)");
        ColdStores none = new ColdStores();
        c.noIndex("without chambers", none, () -> none.wayLength(0, 0, 0));
        ColdStores x = Checks.loaded(TWO);
        c.numbers("wayLength", 2, chamber -> x.wayLength(chamber, 0, 0));
        c.noIndex("no chamber and no row", x, () -> x.wayLength(2, 6, 0));
        c.noIndex("no chamber and no column", x, () -> x.wayLength(-1, 0, -1));
    }

    static void wayToNoCell() {
        c.about("Promise 49", NO_CELL + " (checked second)");
        cells("wayLength", (x, chamber, row, column) -> x.wayLength(chamber, row, column));
        ColdStores x = Checks.loaded("chamber u 2 2 0");
        c.badArgument("before there is no way", x, () -> x.wayLength(0, 2, 0));
    }

    static void noWayAtAll() {
        c.about("Promise 49", NO_WAY);
        ColdStores x = Checks.loaded("chamber u 1 3 0;door u 0 0;chamber v 1 1 0;" + PQN + ";pallet n;pallet n");
        c.noElement("without a door", x, () -> x.wayLength(1, 0, 0));
        x.store(0, 0, 0, 1);
        c.noElement("behind a pallet", x, () -> x.wayLength(0, 0, 2));
        c.same("before it", x.wayLength(0, 0, 0), 1);
        x.store(1, 0, 0, 0);
        c.noElement("behind a door's cell that is not free", x, () -> x.wayLength(0, 0, 2));
    }

    static void wayToACellThatIsNotFree() {
        c.about("Promise 49", NO_WAY);
        ColdStores x = Checks.loaded("chamber u 1 2 0;door u 0 0;" + PQN + ";pallet n");
        x.store(0, 0, 0, 1);
        c.noElement("beside a free door's cell", x, () -> x.wayLength(0, 0, 1));
        x.shift(0, 0, 0);
        c.noElement("a door's cell", x, () -> x.wayLength(0, 0, 0));
    }

    // ---- promises 50 and 51

    static void bitsOfReachableCells() {
        c.about("Promise 50", "Returns a bit set: bit (row * number of columns + column) is set for each such cell.");
        ColdStores all = Checks.loaded("chamber u 6 4 0;door u 5 3");
        c.same("24 cells", all.reachableCells(0), 0xffffff);
        ColdStores one = Checks.loaded("chamber u 1 1 0;door u 0 0;chamber v 1 1 0");
        c.same("one cell", one.reachableCells(0), 1);
        c.same("without a door", one.reachableCells(1), 0);
        ColdStores x = Checks.loaded(TWO + ";pallet n;pallet n");
        x.store(0, 0, 0, 1);
        c.same("not the cell of a pallet", x.reachableCells(0), 0b111101);
        x.store(1, 0, 1, 1);
        c.same("not behind pallets", x.reachableCells(0), 0b001001);
        x.shift(1, 1, 0);
        c.same("two corners", x.reachableCells(0), 0b000001);
    }

    static void reachableCellsOfNoChamber() {
        c.about("Promise 50", NO_CHAMBER);
        chamberNumbers("reachableCells", (x, chamber) -> x.reachableCells(chamber));
    }

    static void bitsOfSafeCells() {
        c.about("Promise 51", "Returns a bit set as for reachableCells.");
        ColdStores x = Checks.loaded("chamber u 6 4 0;door u 0 0;chamber v 1 1 0;" + PQN + ";pallet p;pallet q");
        c.same("24 cells", x.safeCells(0, 0), 0xffffff);
        c.same("one cell", x.safeCells(1, 0), 1);
        x.store(0, 0, 5, 3);
        c.same("for p", x.safeCells(0, 0), 0x7fffff);
        c.same("for q", x.safeCells(0, 1), 0x37ffff);
        c.same("for n", x.safeCells(0, 2), 0x7fffff);
        x.store(1, 0, 0, 0);
        c.same("for p", x.safeCells(0, 0), 0x7fffff & ~0b10011);
        c.same("for q", x.safeCells(0, 1), 0x37fffe);
    }

    static void safeCellsOfAFullChamber() {
        c.about("Promise 51", "Returns the free cells in which a pallet of some goods would not taint a pallet in a"
                + " neighbouring cell and would not be tainted by one.");
        ColdStores x = Checks.loaded("chamber u 1 3 0;door u 0 0;" + PQN + ";pallet n;pallet n;pallet n");
        x.autoStore();
        for (int goods = 0; goods < 3; goods++) {
            c.same("no free cell", x.safeCells(0, goods), 0);
        }
        ColdStores y = Checks.loaded("chamber u 1 2 0;door u 0 0;" + PQN + ";pallet p");
        y.store(0, 0, 0, 1);
        c.same("a free cell, but not a safe one", y.safeCells(0, 1), 0);
    }

    static void safeCellsWithoutWays() {
        c.about("Promise 51", "Ways do not matter.");
        ColdStores x = Checks.loaded("chamber u 1 3 0;door u 0 0;chamber v 2 2 0;" + PQN + ";pallet n");
        x.store(0, 0, 0, 0);
        c.same("behind a pallet", x.safeCells(0, 0), 0b110);
        c.same("without a door", x.safeCells(1, 0), 0b1111);
    }

    static void safeCellsOfNoChamberOrGoods() {
        c.about("Promise 51", "Throws IndexOutOfBoundsException if the chamber or the goods do not exist");
        chamberNumbers("safeCells", (x, chamber) -> x.safeCells(chamber, 2));
        ColdStores x = Checks.loaded(TWO);
        c.numbers("safeCells", 3, goods -> x.safeCells(0, goods));
        c.noIndex("neither", x, () -> x.safeCells(2, 3));
        ColdStores none = Checks.loaded("chamber u 1 1 0");
        c.numbers("without goods", 0, goods -> none.safeCells(0, goods));
    }

    // ---- promise 52: obstacles

    static void fewestObstacles() {
        c.about("Promise 52", "Returns the smallest number.");
        ColdStores x = Checks.loaded("chamber u 6 1 0;door u 0 0;" + PQN + times(6, ";pallet n"));
        for (int i = 0; i < 6; i++) {
            x.store(i, 0, 5 - i, 0);
            c.same("none behind the free cells", x.obstacles(i), 0);
        }
        for (int i = 0; i < 6; i++) {
            c.same("all that stand before it", x.obstacles(i), 5 - i);
        }
    }

    static void obstaclesOfAWayAround() {
        c.about("Promise 52", "(section 3; the way need not be free)");
        ColdStores x = Checks.loaded("chamber u 3 3 0;door u 0 0;" + PQN + times(8, ";pallet n"));
        x.store(0, 0, 2, 2);
        x.store(1, 0, 2, 1);
        c.same("around, over none", x.obstacles(0), 0);
        x.store(2, 0, 1, 2);
        c.same("over one of two", x.obstacles(0), 1);
        x.store(3, 0, 0, 2);
        x.store(4, 0, 2, 0);
        c.same("still one", x.obstacles(0), 1);
        x.store(5, 0, 1, 1);
        x.store(6, 0, 1, 0);
        c.same("over two: 0 2 and 1 2", x.obstacles(0), 2);
        x.store(7, 0, 0, 1);
        x.arrive(2);
        x.store(8, 0, 0, 0);
        c.same("a full chamber", x.obstacles(0), 4);
        c.same("the door's cell itself", x.obstacles(8), 0);
    }

    static void obstaclesOfNoPallet() {
        c.about("Promise 52", "Throws IndexOutOfBoundsException if the pallet does not exist (checked first)");
        ColdStores none = new ColdStores();
        c.numbers("obstacles", 0, none::obstacles);
        ColdStores x = Checks.loaded(TWO + ";pallet n;pallet n");
        x.store(0, 0, 0, 1);
        x.store(1, 0, 0, 0);
        c.numbers("obstacles", 2, x::obstacles);
    }

    static void obstaclesOfWhatIsNotStored() {
        c.about("Promise 52", "Throws IllegalStateException if the pallet is not stored (checked second)");
        ColdStores x = Checks.loaded(TWO + times(4, ";pallet n"));
        x.store(1, 0, 0, 0);
        x.retrieve(1);
        x.ship(2);
        x.discard(3);
        for (int i = 0; i < 4; i++) {
            int pallet = i;
            c.badState("in state " + x.stateOf(i), x, () -> x.obstacles(pallet));
        }
    }

    /** A pallet comes into a chamber only through a door, so that no stored one is without a way. */
    static void obstaclesWithoutADoor() {
        c.about("Promise 52", "Throws NoSuchElementException if the chamber has no door");
        ColdStores x = Checks.loaded("chamber u 2 2 2;" + PQN + ";pallet n");
        for (int cell = 0; cell < 4; cell++) {
            int row = cell / 2;
            int column = cell % 2;
            c.badState("no pallet comes into it", x, () -> x.store(0, 0, row, column));
        }
        c.same("nor by autoStore", x.autoStore(), 0);
    }

    // ---- promise 53: mostPairs

    static void noPairs() {
        c.about("Promise 53", "Returns k, 0 or more.");
        ColdStores x = Checks.loaded("chamber u 1 1 0;chamber v 1 2 0;door v 0 0;" + PQN + ";pallet n;pallet n");
        c.same("one cell", x.mostPairs(0, 0, 2), 0);
        c.same("two cells", x.mostPairs(1, 0, 2), 1);
        c.same("two cells, but beside each other", x.mostPairs(1, 0, 1), 0);
        x.store(0, 1, 0, 1);
        c.same("one free cell", x.mostPairs(1, 0, 2), 0);
        x.store(1, 1, 0, 0);
        c.same("a full chamber", x.mostPairs(1, 0, 2), 0);
    }

    static void mostPairsOfAll() {
        c.about("Promise 53", "Returns k, 0 or more.");
        ColdStores x = Checks.loaded("chamber u 6 4 0;chamber v 5 3 0;chamber w 6 1 0;" + PQN);
        c.same("24 cells, mixed", x.mostPairs(0, 0, 2), 12);
        c.same("15 cells, mixed", x.mostPairs(1, 2, 1), 7);
        c.same("24 cells, apart", x.mostPairs(0, 0, 1), 10);
        c.same("24 cells, apart", x.mostPairs(0, 1, 0), 10);
        c.same("15 cells: 6, 3 free ones and 6", x.mostPairs(1, 0, 1), 6);
        c.same("6 cells in a column", x.mostPairs(2, 0, 1), 2);
    }

    /** All ways to fill small chambers, tried one by one. */
    static void mostPairsTried() {
        c.about("Promise 53", "Returns the greatest k such that k pallets of some goods and k pallets of other goods"
                + " could be added in free cells of a chamber so that, of all pallets in it then, no pallet is in a"
                + " cell neighbouring that of a pallet which it taints.");
        for (int rows = 1; rows <= 6; rows++) {
            for (int columns = 1; columns <= 4 && rows * columns <= 9; columns++) {
                ColdStores x = Checks.loaded("chamber u " + rows + " " + columns + " 0;door u 0 0;" + PQN
                        + ";pallet p;pallet q;pallet n");
                triedPairs(x, rows, columns);
                x.store(0, 0, rows - 1, columns - 1);
                triedPairs(x, rows, columns);
                if (rows * columns > 4) {
                    x.store(2, 0, 0, columns / 2);
                    triedPairs(x, rows, columns);
                }
            }
        }
    }

    private static void triedPairs(ColdStores x, int rows, int columns) {
        for (int goods = 0; goods < 3; goods++) {
            for (int other = 0; other < 3; other++) {
                if (goods != other) {
                    boolean apart = x.taints(goods, other) || x.taints(other, goods);
                    int first = x.safeCells(0, goods);
                    int second = x.safeCells(0, other);
                    int due = fill(new int[rows * columns], 0, columns, first, second, apart, 0);
                    c.same("mostPairs of " + goods + " and " + other + " in " + rows + " by " + columns,
                            x.mostPairs(0, goods, other), due);
                }
            }
        }
    }

    private static int fill(int[] cells, int cell, int columns, int first, int second, boolean apart, int balance) {
        if (cell == cells.length) {
            int firsts = 0;
            for (int one : cells) {
                firsts += one == 1 ? 1 : 0;
            }
            return balance == 0 ? firsts : 0;
        }
        int best = 0;
        for (int one = 0; one <= 2; one++) {
            boolean safe = one == 0 || ((one == 1 ? first : second) >> cell & 1) == 1;
            boolean up = cell >= columns && cells[cell - columns] + one == 3 && one != 0;
            boolean left = cell % columns > 0 && cells[cell - 1] + one == 3 && one != 0;
            if (safe && !(apart && (up || left))) {
                cells[cell] = one;
                best = Math.max(best, fill(cells, cell + 1, columns, first, second, apart,
                        balance + (one == 1 ? 1 : one == 2 ? -1 : 0)));
            }
        }
        cells[cell] = 0;
        return best;
    }

    /** Large chambers with pallets here and there; all sets of cells for the first goods are tried. */
    static void mostPairsInLargeChambers() {
        c.about("Promise 53", "could be added in free cells of a chamber so that, of all pallets in it then, no pallet"
                + " is in a cell neighbouring that of a pallet which it taints. Ways do not matter.");
        int[][] sizes = {{4, 4}, {6, 3}, {5, 4}, {6, 4}};
        for (int[] size : sizes) {
            int cells = size[0] * size[1];
            for (int step = 5; step <= 19; step += 2) {
                ColdStores x = Checks.loaded("chamber u " + size[0] + " " + size[1] + " 0" + doorsInAll(size) + ";" + PQN
                        + ";pallet p;pallet q;pallet n;pallet p;pallet q;pallet n");
                for (int pallet = 0; pallet < 6; pallet++) {
                    int cell = (step * pallet + step / 3) % cells;
                    if (x.storeProblem(pallet, 0, cell / size[1], cell % size[1]) == 0) {
                        x.store(pallet, 0, cell / size[1], cell % size[1]);
                    }
                }
                c.same("apart in " + size[0] + " by " + size[1] + ", step " + step, x.mostPairs(0, 0, 1),
                        mostBesideSets(x.safeCells(0, 0), x.safeCells(0, 1), size[1]));
            }
        }
    }

    private static String doorsInAll(int[] size) {
        StringBuilder doors = new StringBuilder();
        for (int cell = 0; cell < size[0] * size[1]; cell++) {
            doors.append(";door u ").append(cell / size[1]).append(" ").append(cell % size[1]);
        }
        return doors.toString();
    }

    private static int mostBesideSets(int first, int second, int columns) {
        int leftmost = 0;
        for (int cell = 0; cell < 24; cell += columns) {
            leftmost |= 1 << cell;
        }
        int best = 0;
        for (int set = first; set != 0; set = set - 1 & first) {
            int taken = set | set << columns | set >> columns | set << 1 & ~leftmost | (set & ~leftmost) >> 1;
            best = Math.max(best, Math.min(Integer.bitCount(set), Integer.bitCount(second & ~taken)));
        }
        return best;
    }

    static void pairsOfNoChamberOrGoods() {
        c.about("Promise 53", "Throws IndexOutOfBoundsException if the chamber or the goods do not exist (checked"
                + " first)");
        chamberNumbers("mostPairs", (x, chamber) -> x.mostPairs(chamber, 0, 1));
        ColdStores x = Checks.loaded(TWO);
        for (int wrong : new int[] {LEAST, -1, 3, 6, MOST}) {
            c.noIndex("the first goods", x, () -> x.mostPairs(0, wrong, 1));
            c.noIndex("the second goods", x, () -> x.mostPairs(0, 1, wrong));
            c.noIndex("both, the same", x, () -> x.mostPairs(0, wrong, wrong));
            c.noIndex("no chamber, the same goods", x, () -> x.mostPairs(wrong, 1, 1));
        }
    }

    static void pairsOfTheSameGoods() {
        c.about("Promise 53", "Throws IllegalArgumentException if both goods are the same");
        ColdStores x = Checks.loaded(TWO);
        for (int i = 0; i < 3; i++) {
            int goods = i;
            c.badArgument("goods " + i, x, () -> x.mostPairs(1, goods, goods));
        }
    }

    // ---- promise 54: bestSetpoint

    static void lowestOfSeveralSetpoints() {
        c.about("Promise 54", "Returns the setpoint; the lowest one among several.");
        ColdStores x = Checks.loaded("chamber u 2 2 5;door u 0 0;goods a 3 7 9 0 0;goods b 7 20 9 0 0;goods d 8 20 9 0 0;"
                + "goods e -30 -30 9 0 0;pallet a;pallet b;pallet d;pallet e");
        c.same("without pallets", x.bestSetpoint(0), -30);
        x.store(0, 0, 1, 1);
        c.same("the lowest of a's", x.bestSetpoint(0), 3);
        x.store(1, 0, 0, 1);
        c.same("a's highest is b's lowest", x.bestSetpoint(0), 7);
        x.store(2, 0, 1, 0);
        c.same("a and b before b and d", x.bestSetpoint(0), 7);
        x.retrieve(2);
        x.retrieve(1);
        x.store(2, 0, 1, 0);
        c.same("a before d", x.bestSetpoint(0), 3);
        x.store(3, 0, 0, 0);
        c.same("e before a and d", x.bestSetpoint(0), -30);
    }

    static void ranges() {
        c.about("Promise 54", "Finds the setpoint, -30 to 20, which is not below the lowest and not above the highest"
                + " temperature of the goods of as many pallets stored in the chamber as possible.");
        ColdStores x = Checks.loaded("chamber u 1 2 5;door u 0 0;chamber v 1 1 5;door v 0 0;goods a 20 20 9 0 0;"
                + "goods b -30 -29 9 0 0;pallet a;pallet b;pallet b");
        x.store(0, 0, 0, 1);
        c.same("the warmest", x.bestSetpoint(0), 20);
        x.store(1, 1, 0, 0);
        c.same("the coldest", x.bestSetpoint(1), -30);
        c.same("waiting pallets do not count", x.bestSetpoint(0), 20);
        x.retrieve(0);
        c.same("nor those that are gone", x.bestSetpoint(0), -30);
    }

    static void bestSetpointOfNoChamber() {
        c.about("Promise 54", NO_CHAMBER);
        chamberNumbers("bestSetpoint", (x, chamber) -> x.bestSetpoint(chamber));
    }

    // ---- promise 55: availableFor

    static void availablePallets() {
        c.about("Promise 55", "Returns the number.");
        ColdStores x = Checks.loaded("chamber u 6 4 2;door u 0 0;" + PQN + ";order n 1 0;order q 1 0");
        c.same("none", x.availableFor(0), 0);
        for (int i = 0; i < 40; i++) {
            x.arrive(2);
            if (i < 24) {
                x.store(i, 0, (23 - i) / 4, (23 - i) % 4);
            } else if (i < 32) {
                x.discard(i);
            }
        }
        c.same("24 stored and 8 waiting", x.availableFor(0), 32);
        c.same("other goods", x.availableFor(1), 0);
        x.save();
        c.same("no door is opened by asking", x.openings(0), 24);
    }

    static void availableWhateverTheOrder() {
        c.about("Promise 55", "Whether it was served, and its due day, do not matter.");
        ColdStores x = Checks.loaded("goods a 0 20 60 0 0;pallet a;pallet a;pallet a;order a 1 0;order a 9 365");
        x.serve(0);
        c.same("served", x.availableFor(0), 2);
        c.same("more than there are", x.availableFor(1), 2);
        x.advance(1);
        c.same("after its due day", x.availableFor(0), 2);
        x.advance(60);
        c.same("spoiled", x.availableFor(0), 0);
    }

    static void availableBehindOthers() {
        c.about("Promise 55", "one after another, as in serve()");
        ColdStores x = Checks.loaded("chamber u 1 4 2;door u 0 0;" + PQN + ";pallet n;pallet q;pallet n;pallet n;"
                + "order n 9 0");
        x.store(0, 0, 0, 3);
        x.store(2, 0, 0, 2);
        x.store(3, 0, 0, 1);
        c.same("each behind the other", x.availableFor(0), 3);
        x.retrieve(3);
        x.store(1, 0, 0, 1);
        c.same("behind other goods", x.availableFor(0), 1);
    }

    static void availableForNoOrder() {
        c.about("Promise 55", "Throws IndexOutOfBoundsException if the order does not exist");
        for (int count = 0; count <= 10; count += 5) {
            ColdStores x = Checks.loaded(PQN + times(count, ";order n 1 1"));
            c.numbers("availableFor", count, x::availableFor);
        }
        ColdStores none = new ColdStores();
        c.noIndex("in a new object", none, () -> none.availableFor(0));
    }
}
