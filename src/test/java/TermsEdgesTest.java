/** A test for each sentence of sections 1 to 6 that names a boundary. */
public final class TermsEdgesTest {
    private static final Checks c = new Checks();
    private static final String GOODS = "Goods have a name, a lowest and a highest temperature (-30 to 20"
            + " degrees, the lowest not above the highest), a shelf life (1 to 60 days), a smell (0 to 9)"
            + " and a sensitivity (0 to 9).";
    private static final String CHAMBER = "A chamber has a name, 1 to 6 rows and 1 to 4 columns of cells,"
            + " both numbered from 0, a setpoint (-30 to 20 degrees), and some of its cells have doors.";
    private static final String SPOILED = "It is spoiled if its heat is greater than the heat limit (0 to"
            + " 999, 100 at first), its taint is greater than the taint limit (0 to 999, 10 at first), or the"
            + " current day minus its arrival day is greater than the shelf life of its goods.";
    private static final String NEVER_TAINTED =
            "No pallet is ever in a cell neighbouring that of a pallet which it taints.";
    private static final String HEAT = "If t is above 10 * (highest temperature of its goods), the heat grows"
            + " by the difference; if t is below 10 * (lowest temperature of its goods), the heat grows by the"
            + " difference.";
    private static final String TAINT = "The taint of each waiting pallet grows: of the goods of all waiting"
            + " pallets that taint its goods, the greatest smell minus the sensitivity of its goods is added,"
            + " if there are any such goods.";
    private static final String WARMING = "The warming of each chamber becomes (warming + 4 * openings) / 2,"
            + " rounded down, where openings is how often its doors were opened on the current day.";
    private static final String ORDER = "An order has goods, a number of pallets (1 to 9) and a due day (0 to"
            + " 365), and was served or not.";
    /** p taints q; n neither taints nor is tainted. */
    private static final String PQN = "goods p 0 4 60 9 0;goods q 0 4 60 0 0;goods n 0 4 60 0 9";

    public static void main(String[] args) throws java.io.IOException {
        c.runAll(TermsEdgesTest.class);
        c.end("TermsEdgesTest");
    }

    static void constantNone() {
        c.about("Examples", "The constants: NONE = -1: There is no such result.");
        c.same("NONE", ColdStores.NONE, -1);
    }

    /** Four calls until the text is loaded, then 127 times four. */
    static void calls512() {
        c.about("What it is", "An object is used for at most 512 calls after it has been made");
        ColdStores x = Checks.loaded("goods p 0 4 60 0 0;pallet p;limits 999 9;quay 5");
        for (int i = 0; i < 127; i++) {
            c.same("advance", x.advance(1), 0);
            c.same("heat", x.heat(0), 10);
            c.same("undo", x.undo(), 0);
            c.same("heat", x.heat(0), 0);
        }
    }

    // ---- section 1

    static void sixSortsOfGoods() {
        c.about("Section 1", "There are at most 6 sorts of goods, numbered from 0.");
        String six = "goods a 0 1 1 0 0;goods b 0 1 2 0 0;goods c 0 1 3 0 0;goods d 0 1 4 0 0;goods e 0 1 5 0 0;"
                + "goods f 0 1 6 0 0";
        ColdStores x = Checks.loaded(six);
        c.same("goodsCount", x.goodsCount(), 6);
        for (int i = 0; i < 6; i++) {
            c.same("shelfLife " + i, x.shelfLife(i), i + 1);
        }
        c.numbers("shelfLife", 6, x::shelfLife);
        c.at(six + ";^goods g 0 1 7 0 0");
    }

    static void goodsTemperatures() {
        c.about("Section 1", GOODS);
        ColdStores x = Checks.loaded("goods a -30 20 1 0 0;goods b -30 -30 1 0 0;goods c 20 20 1 0 0");
        c.same("the coldest", x.lowestTemperature(0), -30);
        c.same("the warmest", x.highestTemperature(0), 20);
        c.same("the coldest", x.highestTemperature(1), -30);
        c.same("the warmest", x.lowestTemperature(2), 20);
        c.at("goods a -^31 20 1 0 0");
        c.at("goods a ^21 20 1 0 0");
        c.at("goods a -30 ^21 1 0 0");
        c.at("goods a -30 -^31 1 0 0");
    }

    static void lowestNotAboveHighest() {
        c.about("Section 1", GOODS);
        c.valid("goods a 3 3 1 0 0");
        c.valid("goods a 3 4 1 0 0");
        c.at("goods a 3 ^2 1 0 0");
        c.valid("goods a -3 -3 1 0 0");
        c.valid("goods a -3 -2 1 0 0");
        c.at("goods a -3 -^4 1 0 0");
        c.valid("goods a 0 -0 1 0 0");
        c.at("goods a 0 -^1 1 0 0");
    }

    static void shelfLives() {
        c.about("Section 1", GOODS);
        ColdStores x = Checks.loaded("goods a 0 1 1 0 0;goods b 0 1 60 0 0");
        c.same("the shortest", x.shelfLife(0), 1);
        c.same("the longest", x.shelfLife(1), 60);
        c.at("goods a 0 1 ^0 0 0");
        c.at("goods a 0 1 ^61 0 0");
    }

    static void smells() {
        c.about("Section 1", GOODS);
        ColdStores x = Checks.loaded("goods a 0 1 1 0 0;goods b 0 1 1 9 8");
        c.no("a smell of 0", x.taints(0, 1));
        c.yes("a smell of 9", x.taints(1, 0));
        c.at("goods a 0 1 1 ^10 0");
        c.at("goods a 0 1 1 ^-1 0");
    }

    static void sensitivities() {
        c.about("Section 1", GOODS);
        ColdStores x = Checks.loaded("goods a 0 1 1 9 0;goods b 0 1 1 9 9");
        c.yes("a sensitivity of 0", x.taints(1, 0));
        c.no("a sensitivity of 9", x.taints(0, 1));
        c.at("goods a 0 1 1 0 ^10");
        c.at("goods a 0 1 1 0 ^-1");
    }

    static void taintingNeedsAGreaterSmell() {
        c.about("Section 1", "Goods taint other goods if the two are of different sorts and the smell of the"
                + " former is greater than the sensitivity of the latter.");
        ColdStores x = Checks.loaded("goods p 0 0 1 4 0;goods q 0 0 1 0 3;goods r 0 0 1 0 4;goods s 0 0 1 0 5");
        c.yes("4 and 3", x.taints(0, 1));
        c.no("4 and 4", x.taints(0, 2));
        c.no("4 and 5", x.taints(0, 3));
        c.no("0 and 0", x.taints(1, 0));
        c.no("the same sort, 4 and 0", x.taints(0, 0));
    }

    // ---- section 2

    static void fortyPallets() {
        c.about("Section 2",
                "There are at most 40 pallets in all, numbered from 0 in the order of their arrival.");
        ColdStores x = Checks.loaded("goods p 0 4 60 0 0;pallet p");
        c.same("the first", x.waitingPallet(0), 0);
        for (int i = 1; i < 40; i++) {
            x.discard(i - 1);
            c.same("the next number, none again", x.arrive(0), i);
        }
        c.same("palletCount", x.palletCount(), 40);
        x.discard(39);
        c.badState("a 41st", () -> x.arrive(0));
        c.numbers("stateOf", 40, x::stateOf);
    }

    static void statesOfAPallet() {
        c.about("Section 2",
                "It is waiting on the quay, stored in a cell of a chamber, shipped, or discarded.");
        ColdStores x = Checks.loaded("chamber u 1 1 0;door u 0 0;goods p 0 4 60 0 0;pallet p;pallet p;pallet p;"
                + "pallet p");
        x.store(1, 0, 0, 0);
        x.ship(2);
        x.discard(3);
        for (int i = 0; i < 4; i++) {
            c.same("stateOf " + i, x.stateOf(i), i);
            c.same("whether it waits, " + i, x.waitingCount() == 1 && x.waitingPallet(0) == i ? 1 : 0,
                    i == 0 ? 1 : 0);
            c.same("whether it is in the cell, " + i, x.palletAt(0, 0, 0) == i ? 1 : 0, i == 1 ? 1 : 0);
        }
    }

    static void eightWaiting() {
        c.about("Section 2", "At most 8 pallets are waiting at a time");
        ColdStores x = Checks.loaded("chamber u 1 2 0;door u 0 0;goods p 0 4 60 0 0;pallet p;pallet p;pallet p;"
                + "pallet p;pallet p;pallet p;pallet p;pallet p");
        c.same("waitingCount", x.waitingCount(), 8);
        c.badState("a ninth arrives", () -> x.arrive(0));
        x.store(0, 0, 0, 1);
        x.arrive(0);
        c.same("waitingCount", x.waitingCount(), 8);
        c.badState("a ninth is retrieved", () -> x.retrieve(0));
        x.ship(8);
        c.same("the eighth is retrieved", x.retrieve(0), 2);
        c.same("waitingCount", x.waitingCount(), 8);
    }

    static void orderOfWaiting() {
        c.about("Section 2", "they are waiting in the order in which they came to the quay");
        ColdStores x = Checks.loaded("chamber u 1 2 0;door u 0 0;goods p 0 4 60 0 0;pallet p;pallet p;pallet p");
        x.store(1, 0, 0, 0);
        x.arrive(0);
        x.retrieve(1);
        int[] due = {0, 2, 3, 1};
        for (int i = 0; i < 4; i++) {
            c.same("waitingPallet " + i, x.waitingPallet(i), due[i]);
        }
        x.ship(0);
        c.same("the first now", x.waitingPallet(0), 2);
        x.discard(1);
        c.same("the last now", x.waitingPallet(x.waitingCount() - 1), 3);
    }

    static void temperatureOfTheQuay() {
        c.about("Section 2", "The quay has a temperature (-30 to 40 degrees, 12 at first).");
        ColdStores x = Checks.loaded("goods p 0 11 60 0 0;goods q 13 20 60 0 0;goods r 12 12 60 0 0;pallet p;"
                + "pallet q;pallet r");
        x.advance(1);
        c.same("warmer than 11", x.heat(0), 10);
        c.same("colder than 13", x.heat(1), 10);
        c.same("just 12", x.heat(2), 0);
        ColdStores cold = Checks.loaded("goods p -29 0 60 0 0;pallet p;quay -30");
        cold.advance(1);
        c.same("-30", cold.heat(0), 10);
        ColdStores warm = Checks.loaded("goods p 0 20 60 0 0;pallet p;quay 40");
        warm.advance(1);
        c.same("40", warm.heat(0), 200);
        c.at("quay -^31");
        c.at("quay ^41");
    }

    // ---- section 3

    static void threeChambers() {
        c.about("Section 3", "There are at most 3 chambers, numbered from 0.");
        String three = "chamber u 1 1 1;chamber v 1 1 2;chamber w 1 1 3";
        ColdStores x = Checks.loaded(three);
        c.same("chamberCount", x.chamberCount(), 3);
        for (int i = 0; i < 3; i++) {
            c.same("setpoint " + i, x.setpoint(i), i + 1);
        }
        c.numbers("setpoint", 3, x::setpoint);
        c.at(three + ";^chamber z 1 1 4");
    }

    static void rowsOfAChamber() {
        c.about("Section 3", CHAMBER);
        ColdStores x = Checks.loaded("chamber u 1 1 0;chamber v 6 1 0");
        c.same("row 0 of 1", x.palletAt(0, 0, 0), -1);
        c.badArgument("row 1 of 1", () -> x.palletAt(0, 1, 0));
        c.same("row 5 of 6", x.palletAt(1, 5, 0), -1);
        c.badArgument("row 6 of 6", () -> x.palletAt(1, 6, 0));
        c.badArgument("row -1 of 6", () -> x.palletAt(1, -1, 0));
        c.at("chamber u ^0 1 0");
        c.at("chamber u ^7 1 0");
    }

    static void columnsOfAChamber() {
        c.about("Section 3", CHAMBER);
        ColdStores x = Checks.loaded("chamber u 1 1 0;chamber v 1 4 0");
        c.same("column 0 of 1", x.palletAt(0, 0, 0), -1);
        c.badArgument("column 1 of 1", () -> x.palletAt(0, 0, 1));
        c.same("column 3 of 4", x.palletAt(1, 0, 3), -1);
        c.badArgument("column 4 of 4", () -> x.palletAt(1, 0, 4));
        c.badArgument("column -1 of 4", () -> x.palletAt(1, 0, -1));
        c.at("chamber u 1 ^0 0");
        c.at("chamber u 1 ^5 0");
    }

    static void setpointsOfAChamber() {
        c.about("Section 3", CHAMBER);
        ColdStores x = Checks.loaded("chamber u 1 1 -30;chamber v 1 1 20");
        c.same("the coldest", x.setpoint(0), -30);
        c.same("the warmest", x.setpoint(1), 20);
        c.at("chamber u 1 1 -^31");
        c.at("chamber u 1 1 ^21");
    }

    static void doorsOfAChamber() {
        c.about("Section 3", CHAMBER);
        ColdStores none = Checks.loaded("chamber u 2 2 0");
        c.same("without a door", none.reachableCells(0), 0);
        ColdStores all = Checks.loaded("chamber u 2 2 0;door u 0 0;door u 0 1;door u 1 0;door u 1 1");
        c.same("all cells have doors", all.wayLength(0, 0, 0) + all.wayLength(0, 0, 1)
                + all.wayLength(0, 1, 0) + all.wayLength(0, 1, 1), 4);
    }

    static void onePalletInACell() {
        c.about("Section 3", "A cell holds one pallet or is free.");
        ColdStores x = Checks.loaded("chamber u 1 2 0;door u 0 0;door u 0 1;goods p 0 4 60 0 0;pallet p;pallet p");
        c.same("free", x.palletAt(0, 0, 0), -1);
        x.store(0, 0, 0, 0);
        c.same("the pallet", x.palletAt(0, 0, 0), 0);
        c.badState("a second one is stored", x, () -> x.store(1, 0, 0, 0));
        x.store(1, 0, 0, 1);
        c.badState("a second one is shifted there", x, () -> x.shift(1, 0, 0));
        x.retrieve(0);
        c.same("free", x.palletAt(0, 0, 0), -1);
    }

    /** In every cell of chambers of every size: edges, corners, and ends of rows. */
    static void neighbouringCells() {
        c.about("Section 3", "Two cells are neighbouring if they are in the same row and in adjacent columns or"
                + " in the same column and in adjacent rows.");
        for (int rows = 1; rows <= 6; rows++) {
            for (int columns = 1; columns <= 4; columns++) {
                neighboursIn(rows, columns);
            }
        }
    }

    private static void neighboursIn(int rows, int columns) {
        StringBuilder text = new StringBuilder("chamber u " + rows + " " + columns + " 0;" + PQN + ";pallet p");
        for (int cell = 0; cell < rows * columns; cell++) {
            text.append(";door u ").append(cell / columns).append(" ").append(cell % columns);
        }
        ColdStores x = Checks.loaded(text.toString());
        for (int cell = 0; cell < rows * columns; cell++) {
            int row = cell / columns;
            int column = cell % columns;
            int due = 0;
            for (int other = 0; other < rows * columns; other++) {
                int apart = Math.abs(other / columns - row) + Math.abs(other % columns - column);
                due |= apart > 1 ? 1 << other : 0;
            }
            x.store(0, 0, row, column);
            c.same("not beside cell " + cell + " of " + rows + " by " + columns, x.safeCells(0, 1), due);
            x.retrieve(0);
        }
    }

    static void wayBeginsAtADoor() {
        c.about("Section 3", "A way to a cell is a sequence of cells of its chamber that begins with a cell with"
                + " a door, ends with that cell, and in which each cell is neighbouring to the one before it");
        ColdStores x = Checks.loaded("chamber u 2 3 0;chamber v 2 3 0;door u 0 2;" + PQN + ";pallet n;pallet n;pallet n");
        c.same("from the door", x.wayLength(0, 1, 0), 4);
        c.noElement("no door, no way", () -> x.wayLength(1, 0, 2));
        x.store(0, 0, 0, 1);
        x.store(1, 0, 1, 1);
        c.noElement("cell 1 0 is not beside 0 2, nor is 0 0", () -> x.wayLength(0, 1, 0));
        c.noElement("no way", () -> x.wayLength(0, 0, 0));
        x.shift(1, 1, 2);
        c.noElement("1 1 is beside 0 2 by a corner only", () -> x.wayLength(0, 1, 1));
    }

    static void wayOfOneCell() {
        c.about("Section 3", "it may consist of one cell.");
        ColdStores x = Checks.loaded("chamber u 1 1 0;door u 0 0;" + PQN + ";pallet p");
        c.same("wayLength", x.wayLength(0, 0, 0), 1);
        c.same("store", x.store(0, 0, 0, 0), 1);
        c.same("retrieve", x.retrieve(0), 1);
    }

    static void lengthOfAWay() {
        c.about("Section 3", "Its length is the number of its cells.");
        ColdStores x = Checks.loaded("chamber u 6 4 0;door u 0 0;" + PQN);
        for (int cell = 0; cell < 24; cell++) {
            c.same("to cell " + cell, x.wayLength(0, cell / 4, cell % 4), cell / 4 + cell % 4 + 1);
        }
    }

    static void freeWay() {
        c.about("Section 3", "A free way is a way all of whose cells are free.");
        ColdStores x = Checks.loaded("chamber u 1 3 0;door u 0 0;" + PQN + ";pallet n");
        x.store(0, 0, 0, 2);
        c.same("before the pallet", x.reachableCells(0), 3);
        x.shift(0, 0, 1);
        c.same("not past it", x.reachableCells(0), 1);
        x.shift(0, 0, 0);
        c.same("not from a door whose cell is not free", x.reachableCells(0), 0);
    }

    static void storeKeepsTaintAway() {
        c.about("Section 3", NEVER_TAINTED);
        ColdStores x = Checks.loaded("chamber u 1 3 0;door u 0 0;" + PQN + ";pallet p;pallet q;pallet p");
        x.store(0, 0, 0, 2);
        c.badState("q beside p", x, () -> x.store(1, 0, 0, 1));
        x.store(1, 0, 0, 0);
        c.badState("p beside q", x, () -> x.store(2, 0, 0, 1));
    }

    static void shiftKeepsTaintAway() {
        c.about("Section 3", NEVER_TAINTED);
        ColdStores x = Checks.loaded("chamber u 1 4 0;door u 0 0;" + PQN + ";pallet p;pallet q");
        x.store(0, 0, 0, 3);
        x.store(1, 0, 0, 0);
        c.badState("p beside q", x, () -> x.shift(0, 0, 1));
        c.badState("q beside p", x, () -> x.shift(1, 0, 2));
        c.same("as near as can be", x.shift(0, 0, 2), 1);
    }

    static void autoStoreKeepsTaintAway() {
        c.about("Section 3", NEVER_TAINTED);
        ColdStores x = Checks.loaded("chamber u 1 2 0;door u 0 0;" + PQN + ";pallet p;pallet q;pallet p");
        c.same("p and p, not q", x.autoStore(), 2);
        c.same("stateOf", x.stateOf(1), 0);
        c.same("cellOf", x.cellOf(2), 0);
    }

    // ---- section 4

    static void heatAndTaintAtFirst() {
        c.about("Section 4", "A pallet has a heat and a taint, both 0 at first.");
        ColdStores x = Checks.loaded(PQN + ";pallet p;pallet q");
        x.advance(2);
        x.arrive(1);
        c.same("an old one's heat", x.heat(1), 160);
        c.same("an old one's taint", x.taint(1), 18);
        c.same("a new one's heat", x.heat(2), 0);
        c.same("a new one's taint", x.taint(2), 0);
    }

    /** Eight openings: the warming of 16, 8, 4, 2 and 1 brings the heat from 70 to 101. */
    static void heatLimitAtFirst() {
        c.about("Section 4", SPOILED);
        ColdStores x = Checks.loaded("chamber u 1 2 5;door u 0 0;door u 0 1;goods g 0 5 60 0 0;pallet g;pallet g");
        x.advance(1);
        c.same("heat", x.heat(0), 70);
        x.store(0, 0, 0, 0);
        for (int i = 0; i < 3; i++) {
            x.store(1, 0, 0, 1);
            x.retrieve(1);
        }
        x.store(1, 0, 0, 1);
        c.same("openings", x.openings(0), 8);
        c.same("four nights", x.advance(4), 0);
        c.same("heat", x.heat(0), 100);
        c.no("a heat of 100", x.isSpoiled(0));
        c.same("both at once", x.advance(1), 2);
        c.same("heat", x.heat(0), 101);
        c.yes("a heat of 101", x.isSpoiled(0));
    }

    static void leastHeatLimit() {
        c.about("Section 4", SPOILED);
        ColdStores x = Checks.loaded("chamber u 1 1 4;door u 0 0;goods p 0 4 60 0 0;goods r 0 12 60 0 0;pallet p;"
                + "pallet r;limits 0 10");
        c.no("at first", x.isSpoiled(0));
        x.store(0, 0, 0, 0);
        c.same("by the warming of 2", x.advance(1), 1);
        c.yes("a heat of 2", x.isSpoiled(0));
        c.no("a heat of 0", x.isSpoiled(1));
        c.at("limits ^-1 10");
    }

    /** 13 openings: 26, 13, 6, 3 and 1 bring the heat from 950 to 999. */
    static void greatestHeatLimit() {
        c.about("Section 4", SPOILED);
        ColdStores x = Checks.loaded("chamber u 1 2 11;door u 0 0;door u 0 1;goods g 0 11 60 0 0;pallet g;"
                + "goods h -30 20 60 0 0;pallet h;quay 30;limits 999 10");
        x.advance(5);
        c.same("heat", x.heat(0), 950);
        x.store(0, 0, 0, 0);
        for (int i = 0; i < 6; i++) {
            x.store(1, 0, 0, 1);
            x.retrieve(1);
        }
        c.same("openings", x.openings(0), 13);
        x.advance(9);
        c.same("heat", x.heat(0), 999);
        c.no("a heat of 999", x.isSpoiled(0));
        ColdStores y = Checks.loaded("goods g 0 10 60 0 0;pallet g;quay 20;limits 999 10");
        y.advance(9);
        c.no("a heat of 900", y.isSpoiled(0));
        c.same("spoiled by the tenth night", y.advance(1), 1);
        c.same("heat", y.heat(0), 1000);
        c.at("limits ^1000 10");
    }

    static void taintLimitAtFirst() {
        c.about("Section 4", SPOILED);
        ColdStores x = Checks.loaded("goods p 0 20 60 9 9;goods r 0 20 60 1 9;goods q 0 20 60 0 0;pallet p;"
                + "pallet q;pallet r");
        x.advance(1);
        x.discard(0);
        x.advance(1);
        c.same("taint", x.taint(1), 10);
        c.no("a taint of 10", x.isSpoiled(1));
        c.same("spoiled by the third night", x.advance(1), 1);
        c.same("taint", x.taint(1), 11);
        c.yes("a taint of 11", x.isSpoiled(1));
    }

    static void leastAndGreatestTaintLimit() {
        c.about("Section 4", SPOILED);
        String goods = "goods r 0 20 60 1 9;goods q 0 20 60 0 0;goods p 0 20 60 9 9;pallet r;pallet q;";
        ColdStores x = Checks.loaded(goods + "limits 100 0");
        c.no("a taint of 0", x.isSpoiled(1));
        c.same("q", x.advance(1), 1);
        c.yes("a taint of 1", x.isSpoiled(1));
        c.no("r, with a taint of 0", x.isSpoiled(0));
        ColdStores y = Checks.loaded(goods + "pallet p;limits 100 999");
        c.same("none by taint", y.advance(60), 0);
        c.same("taint", y.taint(1), 540);
        c.at("limits 100 ^1000");
        c.at("limits 100 ^-1");
    }

    static void endOfTheShelfLife() {
        c.about("Section 4", SPOILED);
        ColdStores x = Checks.loaded("goods a 0 20 1 0 0;goods b 0 20 60 0 0;pallet a;pallet b");
        x.advance(3);
        x.arrive(0);
        c.same("none", x.advance(1), 0);
        c.no("1 day of 1", x.isSpoiled(2));
        c.same("the later a", x.advance(1), 1);
        c.yes("2 days of 1", x.isSpoiled(2));
        x.advance(55);
        c.no("60 days of 60", x.isSpoiled(1));
        c.same("b", x.advance(1), 1);
        c.yes("61 days of 60", x.isSpoiled(1));
    }

    static void dayOfLeaving() {
        c.about("Section 4", "For a pallet that was shipped or discarded, the day on which this happened takes"
                + " the place of the current day.");
        ColdStores x = Checks.loaded("chamber u 1 1 4;door u 0 0;goods a 0 20 2 0 0;pallet a;pallet a;pallet a;"
                + "pallet a;order a 1 9");
        x.store(0, 0, 0, 0);
        x.advance(2);
        x.serve(0);
        x.ship(1);
        x.discard(2);
        x.advance(1);
        x.discard(3);
        x.advance(60);
        c.no("served on the last day", x.isSpoiled(0));
        c.no("shipped on the last day", x.isSpoiled(1));
        c.no("discarded on the last day", x.isSpoiled(2));
        c.yes("discarded a day later", x.isSpoiled(3));
    }

    // ---- section 5

    static void firstAndLastDay() {
        c.about("Section 5", "The current day is 0 at first and never greater than 365.");
        ColdStores x = new ColdStores();
        c.same("a new object", x.currentDay(), 0);
        for (int i = 0; i < 6; i++) {
            x.advance(60);
        }
        c.badArgument("to 366", x, () -> x.advance(6));
        x.advance(5);
        c.same("the last day", x.currentDay(), 365);
        c.badArgument("beyond it", x, () -> x.advance(1));
        Checks.feed(x, "quay 1");
        x.load();
        c.same("at first", x.currentDay(), 0);
    }

    static void warmingAtFirst() {
        c.about("Section 5", "A chamber has a warming (in tenths of a degree, 0 at first); its temperature in"
                + " tenths of a degree is 10 * setpoint + warming.");
        ColdStores x = Checks.loaded("chamber u 1 1 -30;door u 0 0;chamber v 1 1 20;chamber w 1 1 0;door w 0 0;" + PQN
                + ";pallet n;pallet n");
        c.same("-30 degrees", x.temperature(0), -300);
        c.same("20 degrees", x.temperature(1), 200);
        c.same("0 degrees", x.temperature(2), 0);
        x.store(0, 0, 0, 0);
        x.store(1, 2, 0, 0);
        x.advance(1);
        c.same("-30 degrees and 2 tenths", x.temperature(0), -298);
        c.same("20 degrees", x.temperature(1), 200);
        c.same("2 tenths", x.temperature(2), 2);
    }

    static void warmingIsRoundedDown() {
        c.about("Section 5", WARMING);
        ColdStores x = Checks.loaded("chamber u 1 1 0;door u 0 0;" + PQN + ";pallet n");
        x.store(0, 0, 0, 0);
        int[] due = {2, 1, 0, 0};
        for (int i = 0; i < 4; i++) {
            x.advance(1);
            c.same("after night " + (i + 1), x.temperature(0), due[i]);
        }
        x.retrieve(0);
        x.advance(2);
        c.same("1 again", x.temperature(0), 1);
        x.store(0, 0, 0, 0);
        x.advance(1);
        c.same("(1 + 4) / 2", x.temperature(0), 2);
    }

    static void openingsOfTheDay() {
        c.about("Section 5", WARMING);
        ColdStores x = Checks.loaded("chamber u 1 1 0;door u 0 0;chamber v 1 1 0;door v 0 0;" + PQN + ";pallet n");
        for (int i = 0; i < 25; i++) {
            x.store(0, 0, 0, 0);
            x.retrieve(0);
        }
        x.advance(1);
        c.same("50 openings", x.temperature(0), 100);
        c.same("none", x.temperature(1), 0);
        x.store(0, 1, 0, 0);
        x.advance(1);
        c.same("no more openings", x.temperature(0), 50);
        c.same("one", x.temperature(1), 2);
    }

    static void openingsAfterANight() {
        c.about("Section 5", "After that the number of openings is 0.");
        ColdStores x = Checks.loaded("chamber u 1 1 0;door u 0 0;" + PQN + ";pallet n");
        x.store(0, 0, 0, 0);
        x.retrieve(0);
        c.same("by day", x.openings(0), 2);
        x.advance(1);
        c.same("after a night", x.openings(0), 0);
        x.store(0, 0, 0, 0);
        c.same("the next day", x.openings(0), 1);
    }

    static void whoseHeatGrows() {
        c.about("Section 5", "The heat of each waiting or stored pallet grows.");
        ColdStores x = Checks.loaded("chamber u 1 1 5;door u 0 0;goods a 0 4 60 0 0;pallet a;pallet a;pallet a;"
                + "pallet a");
        x.store(1, 0, 0, 0);
        x.ship(2);
        x.discard(3);
        x.advance(1);
        int[] due = {80, 12, 0, 0};
        for (int i = 0; i < 4; i++) {
            c.same("heat " + i, x.heat(i), due[i]);
        }
        x.discard(0);
        x.retrieve(1);
        x.ship(1);
        x.advance(1);
        c.same("discarded", x.heat(0), 80);
        c.same("shipped", x.heat(1), 12);
    }

    static void temperatureThatHeats() {
        c.about("Section 5", "Let t be the temperature of its chamber, or of the quay if it is waiting, in"
                + " tenths of a degree.");
        ColdStores x = Checks.loaded("chamber u 1 1 -5;door u 0 0;chamber v 1 1 9;door v 0 0;goods a 0 4 60 0 0;"
                + "pallet a;pallet a;pallet a;quay -1");
        x.store(0, 0, 0, 0);
        x.store(1, 1, 0, 0);
        x.advance(1);
        c.same("-48 tenths", x.heat(0), 48);
        c.same("92 tenths", x.heat(1), 52);
        c.same("-10 tenths", x.heat(2), 10);
    }

    static void heatAboveTheHighest() {
        c.about("Section 5", HEAT);
        ColdStores x = Checks.loaded("chamber u 1 1 4;door u 0 0;goods a 0 4 60 0 0;goods b 0 11 60 0 0;"
                + "goods d 0 12 60 0 0;goods e 0 13 60 0 0;pallet a;pallet b;pallet d;pallet e");
        x.store(0, 0, 0, 0);
        x.advance(1);
        c.same("42 and 40", x.heat(0), 2);
        c.same("120 and 110", x.heat(1), 10);
        c.same("120 and 120", x.heat(2), 0);
        c.same("120 and 130", x.heat(3), 0);
        x.advance(1);
        c.same("41 and 40", x.heat(0), 2 + 1);
        x.advance(1);
        c.same("40 and 40", x.heat(0), 2 + 1);
    }

    static void heatBelowTheLowest() {
        c.about("Section 5", HEAT);
        ColdStores x = Checks.loaded("chamber u 1 1 -5;door u 0 0;goods a -4 4 60 0 0;goods b 13 20 60 0 0;"
                + "goods d 12 20 60 0 0;goods e 11 20 60 0 0;pallet a;pallet b;pallet d;pallet e");
        x.store(0, 0, 0, 0);
        x.advance(1);
        c.same("-48 and -40", x.heat(0), 8);
        c.same("120 and 130", x.heat(1), 10);
        c.same("120 and 120", x.heat(2), 0);
        c.same("120 and 110", x.heat(3), 0);
        x.advance(1);
        c.same("-49 and -40", x.heat(0), 8 + 9);
        x.setSetpoint(0, -4);
        x.advance(1);
        c.same("-40 and -40", x.heat(0), 8 + 9);
    }

    static void taintBySmellNotAboveSensitivity() {
        c.about("Section 5", TAINT);
        ColdStores x = Checks.loaded("goods p 0 20 60 5 9;goods q 0 20 60 0 4;goods r 0 20 60 0 5;pallet p;"
                + "pallet q;pallet r;pallet p");
        x.advance(1);
        c.same("5 and 4", x.taint(1), 1);
        c.same("5 and 5", x.taint(2), 0);
        c.same("p", x.taint(0), 0);
    }

    static void taintByTheSameSort() {
        c.about("Section 5", TAINT);
        ColdStores x = Checks.loaded("goods p 0 20 60 9 0;pallet p;pallet p");
        x.advance(3);
        c.same("none", x.taint(0) + x.taint(1), 0);
    }

    static void taintByTheGreatestSmell() {
        c.about("Section 5", TAINT);
        ColdStores x = Checks.loaded("goods p 0 20 60 3 9;goods q 0 20 60 7 9;goods r 0 20 60 0 1;goods s 0 20 60 5 9;"
                + "pallet p;pallet q;pallet r;pallet s;pallet q");
        x.advance(1);
        c.same("7 - 1, once", x.taint(2), 6);
        x.discard(1);
        x.advance(1);
        c.same("7 - 1 again", x.taint(2), 12);
        x.discard(4);
        x.advance(1);
        c.same("5 - 1", x.taint(2), 16);
    }

    static void taintOfStoredPallets() {
        c.about("Section 5", TAINT);
        ColdStores x = Checks.loaded("chamber u 1 4 4;door u 0 0;" + PQN + ";pallet p;pallet q;pallet p;pallet q");
        x.store(2, 0, 0, 3);
        x.store(1, 0, 0, 1);
        x.advance(1);
        c.same("a stored one is not tainted", x.taint(1), 0);
        c.same("a waiting one is", x.taint(3), 9);
        x.discard(0);
        x.advance(1);
        c.same("a stored one does not taint", x.taint(3), 9);
    }

    static void dayAfterANight() {
        c.about("Section 5", "The current day grows by 1.");
        ColdStores x = new ColdStores();
        x.advance(1);
        c.same("one night", x.currentDay(), 1);
        x.advance(7);
        c.same("seven nights", x.currentDay(), 8);
    }

    /** The heat of the first night is that of the new warming. */
    static void orderInANight() {
        c.about("Section 5", "In a night the following happens in this order.");
        ColdStores x = Checks.loaded("chamber u 1 1 4;door u 0 0;goods a 0 4 60 0 0;pallet a");
        x.store(0, 0, 0, 0);
        x.advance(1);
        c.same("heat", x.heat(0), 2);
        x.advance(1);
        c.same("heat", x.heat(0), 3);
    }

    // ---- section 6

    static void tenOrders() {
        c.about("Section 6", "There are at most 10 orders, numbered from 0.");
        StringBuilder text = new StringBuilder("goods a 0 4 60 0 0");
        for (int i = 0; i < 10; i++) {
            text.append(";order a 1 ").append(i);
        }
        ColdStores x = Checks.loaded(text.toString());
        c.same("orderCount", x.orderCount(), 10);
        for (int i = 0; i < 10; i++) {
            c.same("due day of " + i, x.order(i, 2), i);
        }
        c.numbers("order", 10, number -> x.order(number, 0));
        c.at(text + ";^order a 1 1");
    }

    static void palletsOfAnOrder() {
        c.about("Section 6", ORDER);
        ColdStores x = Checks.loaded("goods a 0 4 60 0 0;order a 1 1;order a 9 1");
        c.same("the fewest", x.order(0, 1), 1);
        c.same("the most", x.order(1, 1), 9);
        c.at("goods a 0 4 60 0 0;order a ^0 1");
        c.at("goods a 0 4 60 0 0;order a ^10 1");
    }

    static void dueDayOfAnOrder() {
        c.about("Section 6", ORDER);
        ColdStores x = Checks.loaded("goods a 0 4 60 0 0;order a 1 0;order a 1 365");
        c.same("the first", x.order(0, 2), 0);
        c.same("the last", x.order(1, 2), 365);
        c.at("goods a 0 4 60 0 0;order a 1 ^366");
        c.at("goods a 0 4 60 0 0;order a 1 ^-1");
    }

    static void servedOrNot() {
        c.about("Section 6", ORDER);
        ColdStores x = Checks.loaded("goods a 0 4 60 0 0;pallet a;order a 1 1;order a 1 1");
        c.same("not served", x.order(0, 3), 0);
        x.serve(0);
        c.same("served", x.order(0, 3), 1);
        c.same("the other one", x.order(1, 3), 0);
    }
}
