import java.util.function.Consumer;

/** A test for each sentence of promises 6 to 15 that names a boundary. */
public final class ChangesEdgesTest {
    private static final Checks c = new Checks();
    private static final int LEAST = Integer.MIN_VALUE;
    private static final int MOST = Integer.MAX_VALUE;
    /** p taints q; n neither taints nor is tainted. */
    private static final String PQN = "goods p 0 4 60 9 0;goods q 0 4 60 0 0;goods n 0 4 60 0 9";
    /** Two chambers of different sizes. */
    private static final String TWO = "chamber u 2 3 2;door u 0 0;chamber v 1 2 2;door v 0 1;" + PQN;

    private static final String NO_PALLET =
            "Throws IndexOutOfBoundsException if the pallet does not exist (checked first)";
    private static final String NOT_ARRIVED =
            "Throws IllegalStateException if there are 40 pallets in all or 8 are waiting";
    private static final String NOT_RETRIEVED = "Throws IllegalStateException if the pallet is not stored, 8 pallets"
            + " are waiting, or there is no such way";
    private static final String NOT_SHIFTED = "Throws IllegalStateException if the pallet is not stored, the cell is"
            + " not free, a pallet in a neighbouring cell (other than the moved one) and the moved one would taint one"
            + " another in either direction, or the cell cannot be reached";
    private static final String CONSIDERED = "For each waiting pallet, in the order in which they are waiting, the"
            + " cells with the problem code 0 are considered in all chambers whose setpoint is not below the lowest"
            + " and not above the highest temperature of its goods.";
    private static final String LONGEST = "If there are any, the pallet is stored in the one with the longest shortest"
            + " free way; among equal ones in the chamber with the lowest number, then in the lowest row, then in the"
            + " lowest column.";
    private static final String TAKEN = "Each time, of the pallets of these goods that are not spoiled and are waiting,"
            + " or are stored and have a way on which all other cells are free, the one with the earliest arrival day"
            + " is taken; among equal ones the one with the lowest number.";
    private static final String FROM_CHAMBERS = "For a stored pallet the doors of its chamber are opened once; the"
            + " number of waiting pallets does not matter.";
    private static final String NOT_SERVED = "Throws IllegalStateException if the order was served, the current day is"
            + " later than its due day, or there are not enough such pallets";
    private static final String NOT_ADVANCED = "Throws IllegalArgumentException if days is out of range or the current"
            + " day would be greater than 365";

    public static void main(String[] args) throws java.io.IOException {
        c.runAll(ChangesEdgesTest.class);
        c.covered(6, 15);
        c.end("ChangesEdgesTest");
    }

    /** As many more pallets as may wait. */
    private static void fillTheQuay(ColdStores x, int goods) {
        for (int i = x.waitingCount(); i < 8; i++) {
            x.arrive(goods);
        }
    }

    private static void eachWrong(int count, Consumer<Integer> test) {
        for (int wrong : new int[] {LEAST, -1, count, count + 1, 1000, MOST}) {
            test.accept(wrong);
        }
    }

    // ---- promise 6: arrive

    static void arriveAsTheLast() {
        c.about("Promise 6", "Brings a new pallet to the quay; it is the last one waiting, and its arrival day is the"
                + " current day.");
        ColdStores x = Checks.loaded(TWO);
        x.arrive(0);
        c.same("the only one", x.waitingPallet(0), 0);
        c.same("on day 0", x.arrivalDay(0), 0);
        for (int i = 0; i < 6; i++) {
            x.advance(60);
        }
        x.advance(5);
        x.arrive(2);
        c.same("the last one", x.waitingPallet(1), 1);
        c.same("on day 365", x.arrivalDay(1), 365);
        c.same("its goods", x.goodsOf(1), 2);
    }

    static void arriveAnswersTheNumber() {
        c.about("Promise 6", "Returns the number of the pallet.");
        ColdStores x = Checks.loaded(TWO);
        c.same("the first", x.arrive(0), 0);
        x.ship(0);
        c.same("no number twice", x.arrive(0), 1);
        x.undo();
        c.same("but an undone one", x.arrive(1), 1);
        for (int i = 2; i < 40; i++) {
            x.discard(i - 1);
            c.same("and so on", x.arrive(0), i);
        }
    }

    static void arriveOfNoGoods() {
        c.about("Promise 6", "Throws IndexOutOfBoundsException if the goods do not exist (checked first)");
        ColdStores x = Checks.loaded(TWO + ";pallet p");
        eachWrong(3, wrong -> c.noIndex("arrive(" + wrong + ")", x, () -> x.arrive(wrong)));
        fillTheQuay(x, 0);
        eachWrong(3, wrong -> c.noIndex("with a full quay", x, () -> x.arrive(wrong)));
        ColdStores none = new ColdStores();
        c.noIndex("without goods", none, () -> none.arrive(0));
    }

    static void arriveAtAFullQuay() {
        c.about("Promise 6", NOT_ARRIVED);
        ColdStores x = Checks.loaded(TWO);
        for (int i = 0; i < 8; i++) {
            c.same("while fewer than 8 wait", x.arrive(1), i);
        }
        for (int goods = 0; goods < 3; goods++) {
            int one = goods;
            c.badState("8 are waiting", x, () -> x.arrive(one));
        }
        x.ship(3);
        c.same("7 were waiting", x.arrive(1), 8);
    }

    static void arriveOfA41st() {
        c.about("Promise 6", NOT_ARRIVED);
        ColdStores x = Checks.loaded(TWO);
        for (int i = 0; i < 40; i++) {
            c.same("the 40 first", x.arrive(2), i);
            x.ship(i);
        }
        c.same("none is waiting", x.waitingCount(), 0);
        c.badState("40 in all", x, () -> x.arrive(2));
        x.undo();
        x.undo();
        c.same("39 in all", x.arrive(2), 39);
        c.badState("40 in all", x, () -> x.arrive(2));
    }

    // ---- promise 7: store

    static void storeAWaitingPallet() {
        c.about("Promise 7", "Stores a waiting pallet in a cell.");
        ColdStores x = Checks.loaded(TWO + ";pallet n;pallet n;pallet n");
        x.store(1, 0, 1, 2);
        c.same("palletAt", x.palletAt(0, 1, 2), 1);
        c.same("stateOf", x.stateOf(1), 1);
        c.same("waitingCount", x.waitingCount(), 2);
        c.same("waitingPallet", x.waitingPallet(1), 2);
        x.store(2, 1, 0, 0);
        x.store(0, 1, 0, 1);
        c.same("none is left", x.waitingCount(), 0);
    }

    static void storeOpensTheDoorsOnce() {
        c.about("Promise 7", "The doors of the chamber are opened once.");
        ColdStores x = Checks.loaded(TWO + ";pallet n;pallet n");
        x.store(0, 0, 1, 2);
        c.same("openings", x.openings(0), 1);
        c.same("openings of the other", x.openings(1), 0);
        x.store(1, 0, 0, 0);
        c.same("openings", x.openings(0), 2);
    }

    static void storeAnswersTheWay() {
        c.about("Promise 7", "Returns the length of the shortest free way to the cell (section 3).");
        ColdStores x = Checks.loaded(TWO + ";pallet n;pallet n;pallet n");
        c.same("around nothing", x.store(0, 0, 0, 1), 2);
        c.same("around a pallet", x.store(1, 0, 0, 2), 5);
        c.same("the door's cell", x.store(2, 0, 0, 0), 1);
    }

    static void storeWithoutPalletOrChamber() {
        c.about("Promise 7", "Throws IndexOutOfBoundsException if the pallet or the chamber does not exist (checked"
                + " first)");
        ColdStores x = Checks.loaded(TWO + ";pallet n;pallet n");
        x.store(1, 0, 0, 0);
        eachWrong(2, wrong -> {
            c.noIndex("no pallet", x, () -> x.store(wrong, 0, 1, 1));
            c.noIndex("no pallet and no row", x, () -> x.store(wrong, 0, 2, 0));
            c.noIndex("no pallet and no free cell", x, () -> x.store(wrong, 0, 0, 0));
            c.noIndex("no chamber", x, () -> x.store(0, wrong, 0, 0));
            c.noIndex("no chamber and no column", x, () -> x.store(0, wrong, 0, 9));
            c.noIndex("no chamber for a stored one", x, () -> x.store(1, wrong, 0, 0));
            c.noIndex("neither", x, () -> x.store(wrong, wrong, 0, 0));
        });
    }

    static void storeBesideTheChamber() {
        c.about("Promise 7", "Throws IllegalArgumentException if the chamber has no such row or column (checked"
                + " second)");
        ColdStores x = Checks.loaded(TWO + ";pallet n;pallet n");
        x.store(1, 1, 0, 0);
        eachWrong(2, wrong -> {
            c.badArgument("no row of u", x, () -> x.store(0, 0, wrong, 0));
            c.badArgument("no column of v", x, () -> x.store(0, 1, 0, wrong));
            c.badArgument("no row of u for a stored one", x, () -> x.store(1, 0, wrong, 0));
        });
        c.badArgument("no column of u", x, () -> x.store(0, 0, 0, 3));
        c.badArgument("no row of v", x, () -> x.store(0, 1, 1, 0));
        c.badArgument("1 * 3 - 1 is no cell by itself", x, () -> x.store(0, 0, 1, -1));
        c.same("the last row and column", x.store(0, 0, 1, 2), 4);
    }

    static void storeWithAProblem() {
        c.about("Promise 7", "Throws IllegalStateException if storeProblem() returns a code other than 0");
        ColdStores x = Checks.loaded("chamber u 1 4 2;door u 0 0;chamber v 1 1 2;" + PQN
                + ";pallet p;pallet q;pallet n;pallet n");
        x.store(0, 0, 0, 3);
        refusedWithCode(x, 1, 0, 1);
        refusedWithCode(x, 2, 1, 3);
        refusedWithCode(x, 3, 1, 2);
        x.store(2, 0, 0, 0);
        refusedWithCode(x, 4, 3, 1);
        x.ship(3);
        refusedWithCode(x, 1, 3, 1);
        c.badState("a chamber without a door", x, () -> x.store(1, 1, 0, 0));
    }

    private static void refusedWithCode(ColdStores x, int code, int pallet, int column) {
        c.same("the code", x.storeProblem(pallet, 0, 0, column), code);
        c.badState("store with code " + code, x, () -> x.store(pallet, 0, 0, column));
    }

    // ---- promise 8: retrieve

    static void retrieveToTheEnd() {
        c.about("Promise 8", "Brings a stored pallet to the quay, where it is the last one waiting.");
        ColdStores x = Checks.loaded(TWO + ";pallet n;pallet n;pallet n");
        x.store(0, 0, 0, 0);
        x.retrieve(0);
        c.same("the last one", x.waitingPallet(2), 0);
        c.same("stateOf", x.stateOf(0), 0);
        c.same("cellOf", x.cellOf(0), -1);
        c.same("the cell", x.palletAt(0, 0, 0), -1);
        ColdStores y = Checks.loaded(TWO + ";pallet n");
        y.store(0, 0, 0, 0);
        y.retrieve(0);
        c.same("the only one", y.waitingPallet(0), 0);
    }

    static void retrieveOpensTheDoorsOnce() {
        c.about("Promise 8", "The doors of its chamber are opened once.");
        ColdStores x = Checks.loaded(TWO + ";pallet n;pallet n");
        x.store(0, 0, 1, 2);
        x.store(1, 1, 0, 0);
        x.retrieve(0);
        c.same("openings", x.openings(0), 2);
        c.same("openings of the other", x.openings(1), 1);
    }

    static void retrieveAnswersTheWay() {
        c.about("Promise 8", "Returns the length of the shortest way to its cell on which all other cells are free.");
        ColdStores x = Checks.loaded(TWO + ";pallet n;pallet n;pallet n");
        x.store(0, 0, 0, 2);
        x.store(1, 0, 0, 1);
        c.same("around a pallet", x.retrieve(0), 5);
        c.same("beside the door", x.retrieve(1), 2);
        x.store(2, 0, 0, 0);
        c.same("in the door's cell", x.retrieve(2), 1);
    }

    static void retrieveOfNoPallet() {
        c.about("Promise 8", NO_PALLET);
        ColdStores x = Checks.loaded(TWO + ";pallet n;pallet n");
        x.store(0, 0, 0, 0);
        eachWrong(2, wrong -> c.noIndex("retrieve(" + wrong + ")", x, () -> x.retrieve(wrong)));
        fillTheQuay(x, 0);
        c.noIndex("with a full quay", x, () -> x.retrieve(x.palletCount()));
    }

    static void retrieveOfWhatIsNotStored() {
        c.about("Promise 8", NOT_RETRIEVED);
        ColdStores x = Checks.loaded(TWO + ";pallet n;pallet n;pallet n");
        x.ship(1);
        x.discard(2);
        c.badState("waiting", x, () -> x.retrieve(0));
        c.badState("shipped", x, () -> x.retrieve(1));
        c.badState("discarded", x, () -> x.retrieve(2));
    }

    static void retrieveToAFullQuay() {
        c.about("Promise 8", NOT_RETRIEVED);
        ColdStores x = Checks.loaded(TWO + ";pallet n");
        x.store(0, 0, 0, 0);
        fillTheQuay(x, 2);
        c.badState("8 are waiting", x, () -> x.retrieve(0));
        x.discard(1);
        c.same("7 are waiting", x.retrieve(0), 1);
    }

    static void retrieveWithoutAWay() {
        c.about("Promise 8", NOT_RETRIEVED);
        ColdStores x = Checks.loaded(TWO + ";pallet n;pallet n");
        x.store(0, 1, 0, 0);
        x.store(1, 1, 0, 1);
        c.badState("behind another", x, () -> x.retrieve(0));
        x.retrieve(1);
        c.same("free now", x.retrieve(0), 2);
    }

    // ---- promise 9: shift

    static void shiftThroughFreeCells() {
        c.about("Promise 9", "Moves a stored pallet to another cell of its chamber, from cell to neighbouring cell"
                + " through free cells.");
        ColdStores x = Checks.loaded(TWO + ";pallet n;pallet n");
        x.store(0, 0, 0, 2);
        x.store(1, 0, 0, 1);
        c.same("around the other", x.shift(0, 0, 0), 4);
        c.same("its cell", x.palletAt(0, 0, 0), 0);
        c.same("the cell before", x.palletAt(0, 0, 2), -1);
        c.same("its chamber", x.chamberOf(0), 0);
        c.same("not to the next row's begin", x.shift(1, 0, 2), 1);
        c.same("from a row's end to the next row's begin", x.shift(1, 1, 0), 3);
    }

    static void shiftOpensNoDoor() {
        c.about("Promise 9", "No door is opened.");
        ColdStores x = Checks.loaded(TWO + ";pallet n");
        x.store(0, 0, 0, 2);
        x.shift(0, 0, 0);
        x.shift(0, 1, 0);
        c.same("openings", x.openings(0), 1);
    }

    static void shiftAnswersTheMoves() {
        c.about("Promise 9", "Returns the least number of such moves.");
        ColdStores x = Checks.loaded("chamber u 6 4 0;door u 5 0;" + PQN + ";pallet n;pallet n;pallet n;pallet n;"
                + "pallet n;pallet n;pallet n");
        x.store(0, 0, 5, 3);
        c.same("across the chamber", x.shift(0, 0, 0), 8);
        c.same("one move", x.shift(0, 0, 1), 1);
        for (int i = 1; i < 4; i++) {
            x.store(i, 0, 1, i - 1);
            x.store(i + 3, 0, 3, 4 - i);
        }
        c.same("a snake", x.shift(0, 4, 3), 2 + 2 + 3 + 2 + 3);
    }

    static void shiftOfNoPallet() {
        c.about("Promise 9", NO_PALLET);
        ColdStores x = Checks.loaded(TWO + ";pallet n;pallet n");
        x.store(0, 0, 0, 0);
        eachWrong(2, wrong -> {
            c.noIndex("no pallet", x, () -> x.shift(wrong, 0, 1));
            c.noIndex("no pallet and no row", x, () -> x.shift(wrong, 9, 9));
        });
    }

    static void shiftBesideTheChamber() {
        c.about("Promise 9", "Throws IllegalArgumentException if the pallet is stored and its chamber has no such row"
                + " or column");
        ColdStores x = Checks.loaded(TWO + ";pallet n;pallet n");
        x.store(0, 0, 0, 0);
        x.store(1, 1, 0, 0);
        eachWrong(2, wrong -> {
            c.badArgument("no row of u", x, () -> x.shift(0, wrong, 0));
            c.badArgument("no column of v", x, () -> x.shift(1, 0, wrong));
        });
        c.badArgument("a row of the other chamber only", x, () -> x.shift(1, 1, 0));
        c.badArgument("a column of the other chamber only", x, () -> x.shift(1, 0, 2));
        c.badArgument("no column of u", x, () -> x.shift(0, 0, 3));
        c.same("the last row and column", x.shift(0, 1, 2), 3);
    }

    static void shiftOfWhatIsNotStored() {
        c.about("Promise 9", NOT_SHIFTED);
        ColdStores x = Checks.loaded(TWO + ";pallet n;pallet n;pallet n");
        x.ship(1);
        x.discard(2);
        for (int i = 0; i < 3; i++) {
            int pallet = i;
            c.badState("in state " + x.stateOf(i), x, () -> x.shift(pallet, 0, 0));
            c.badState("with no such row", x, () -> x.shift(pallet, -1, 99));
        }
    }

    static void shiftToACellThatIsNotFree() {
        c.about("Promise 9", NOT_SHIFTED);
        ColdStores x = Checks.loaded(TWO + ";pallet n;pallet n");
        x.store(0, 0, 0, 1);
        x.store(1, 0, 0, 0);
        c.badState("another's cell", x, () -> x.shift(0, 0, 0));
        c.badState("its own cell", x, () -> x.shift(0, 0, 1));
    }

    static void shiftBesideTaint() {
        c.about("Promise 9", NOT_SHIFTED);
        ColdStores x = Checks.loaded("chamber u 2 4 2;door u 0 0;" + PQN + ";pallet p;pallet q");
        x.store(0, 0, 0, 3);
        x.store(1, 0, 0, 0);
        c.badState("p would taint q", x, () -> x.shift(0, 0, 1));
        c.badState("p above q", x, () -> x.shift(0, 1, 0));
        c.badState("q would be tainted", x, () -> x.shift(1, 0, 2));
        c.badState("q below p", x, () -> x.shift(1, 1, 3));
        c.same("a corner is no neighbour", x.shift(0, 1, 1), 3);
        c.same("its own cell is none either", x.shift(0, 1, 2), 1);
    }

    static void shiftToWhereNoWayLeads() {
        c.about("Promise 9", NOT_SHIFTED);
        ColdStores x = Checks.loaded("chamber u 1 4 2;door u 0 0;" + PQN + ";pallet n;pallet n");
        x.store(0, 0, 0, 2);
        x.store(1, 0, 0, 1);
        c.badState("past another", x, () -> x.shift(0, 0, 0));
        c.badState("past another", x, () -> x.shift(1, 0, 3));
        c.same("away from it", x.shift(0, 0, 3), 1);
        c.same("the other way", x.shift(1, 0, 0), 1);
        c.same("no way to a door is needed", x.shift(0, 0, 1), 2);
    }

    // ---- promises 10 and 11: ship and discard

    static void shipAnswersTheCount() {
        c.about("Promise 10", "Returns how many pallets have been shipped in all.");
        ColdStores x = Checks.loaded(TWO + ";pallet n;pallet n;pallet n;pallet n;order n 2 9");
        c.same("the first", x.ship(3), 1);
        x.serve(0);
        c.same("with those of an order", x.ship(2), 4);
        x.undo();
        c.same("without an undone one", x.ship(2), 4);
    }

    static void shipOfNoPallet() {
        c.about("Promise 10", NO_PALLET);
        ColdStores x = Checks.loaded(TWO + ";pallet n;pallet n");
        eachWrong(2, wrong -> c.noIndex("ship(" + wrong + ")", x, () -> x.ship(wrong)));
    }

    static void shipOfWhatIsNotWaiting() {
        c.about("Promise 10", "Throws IllegalStateException if the pallet is not waiting or is spoiled");
        ColdStores x = Checks.loaded(TWO + ";pallet n;pallet n;pallet n");
        x.store(0, 0, 0, 0);
        x.ship(1);
        x.discard(2);
        c.badState("stored", x, () -> x.ship(0));
        c.badState("shipped", x, () -> x.ship(1));
        c.badState("discarded", x, () -> x.ship(2));
    }

    static void shipOfASpoiledPallet() {
        c.about("Promise 10", "Throws IllegalStateException if the pallet is not waiting or is spoiled");
        ColdStores x = Checks.loaded("goods a 0 20 3 0 0;pallet a;pallet a");
        x.advance(3);
        c.same("on its last day", x.ship(0), 1);
        x.advance(1);
        c.badState("a day later", x, () -> x.ship(1));
    }

    static void discardAnswersTheCount() {
        c.about("Promise 11", "Returns how many pallets have been discarded in all.");
        ColdStores x = Checks.loaded(TWO + ";pallet n;pallet n;pallet n");
        c.same("the first", x.discard(1), 1);
        x.ship(0);
        c.same("without a shipped one", x.discard(2), 2);
    }

    static void discardOfNoPallet() {
        c.about("Promise 11", NO_PALLET);
        ColdStores x = Checks.loaded(TWO + ";pallet n;pallet n");
        eachWrong(2, wrong -> c.noIndex("discard(" + wrong + ")", x, () -> x.discard(wrong)));
    }

    static void discardOfWhatIsNotWaiting() {
        c.about("Promise 11", "Throws IllegalStateException if the pallet is not waiting");
        ColdStores x = Checks.loaded("chamber u 1 1 2;door u 0 0;goods a 0 20 3 0 0;pallet a;pallet a;pallet a;"
                + "pallet a");
        x.store(0, 0, 0, 0);
        x.ship(1);
        x.discard(2);
        c.badState("stored", x, () -> x.discard(0));
        c.badState("shipped", x, () -> x.discard(1));
        c.badState("discarded", x, () -> x.discard(2));
        x.advance(4);
        c.same("a spoiled one can be discarded", x.discard(3), 2);
    }

    // ---- promise 12: autoStore

    static void autoStoreInOrderOfWaiting() {
        c.about("Promise 12", CONSIDERED);
        ColdStores x = Checks.loaded("chamber u 1 3 2;door u 0 0;" + PQN + ";pallet n;pallet n;pallet n;pallet n");
        x.store(0, 0, 0, 0);
        x.retrieve(0);
        c.same("autoStore", x.autoStore(), 3);
        c.same("the first waiting", x.cellOf(1), 2);
        c.same("the second", x.cellOf(2), 1);
        c.same("the third", x.cellOf(3), 0);
        c.same("the last one still waits", x.waitingPallet(0), 0);
    }

    static void autoStoreByProblemCode() {
        c.about("Promise 12", CONSIDERED);
        ColdStores x = Checks.loaded("chamber u 1 4 2;door u 0 0;" + PQN + ";pallet p;pallet n;pallet q;pallet q");
        x.store(0, 0, 0, 3);
        x.store(1, 0, 0, 1);
        c.same("behind n no way leads", x.autoStore(), 1);
        c.same("before n", x.cellOf(2), 0);
        c.same("no cell is left", x.waitingPallet(0), 3);
        ColdStores y = Checks.loaded("chamber u 1 3 2;" + PQN + ";pallet n");
        c.same("no door", y.autoStore(), 0);
    }

    static void autoStoreByTheSetpoint() {
        c.about("Promise 12", CONSIDERED);
        ColdStores x = Checks.loaded("chamber u 1 1 5;door u 0 0;chamber v 1 1 -1;door v 0 0;" + PQN + ";pallet n");
        c.same("a degree too warm and a degree too cold", x.autoStore(), 0);
        x.setSetpoint(0, 4);
        c.same("just the highest", x.autoStore(), 1);
        c.same("chamberOf", x.chamberOf(0), 0);
        x.undo();
        x.setSetpoint(0, 5);
        x.setSetpoint(1, 0);
        c.same("just the lowest", x.autoStore(), 1);
        c.same("chamberOf", x.chamberOf(0), 1);
    }

    static void autoStoreNotByTheWarming() {
        c.about("Promise 12", CONSIDERED);
        ColdStores x = Checks.loaded("chamber u 1 2 4;door u 0 0;" + PQN + ";pallet n;pallet n");
        x.store(0, 0, 0, 1);
        x.advance(1);
        c.same("warmer than the highest", x.temperature(0), 42);
        c.same("by the setpoint alone", x.autoStore(), 1);
    }

    static void autoStoreAtTheLongestWay() {
        c.about("Promise 12", LONGEST);
        ColdStores x = Checks.loaded("chamber u 1 3 2;door u 0 0;chamber v 2 3 2;door v 0 0;" + PQN
                + ";pallet n;pallet n;pallet n;pallet n");
        c.same("autoStore", x.autoStore(), 4);
        int[][] due = {{1, 12}, {0, 2}, {1, 2}, {1, 11}};
        for (int i = 0; i < 4; i++) {
            c.same("chamber of " + i, x.chamberOf(i), due[i][0]);
            c.same("cell of " + i, x.cellOf(i), due[i][1]);
        }
    }

    static void autoStoreInTheLastAndTheFirstCell() {
        c.about("Promise 12", LONGEST);
        ColdStores x = Checks.loaded("chamber u 6 4 2;door u 0 0;" + PQN + ";pallet n;pallet n");
        x.autoStore();
        c.same("the last cell", x.cellOf(0), 53);
        c.same("the lower row of two", x.cellOf(1), 43);
        ColdStores y = Checks.loaded("chamber u 6 4 2;door u 5 3;" + PQN + ";pallet n;pallet n");
        y.autoStore();
        c.same("the first cell", y.cellOf(0), 0);
        c.same("the lower row of two", y.cellOf(1), 1);
    }

    static void autoStoreAmongEqualOnes() {
        c.about("Promise 12", LONGEST);
        ColdStores x = Checks.loaded("chamber u 1 1 9;door u 0 0;chamber v 3 3 2;door v 1 1;chamber w 2 2 2;"
                + "door w 0 0;" + PQN + ";pallet n;pallet n;pallet n;pallet n;pallet n;pallet n;pallet n;pallet n");
        c.same("autoStore", x.autoStore(), 8);
        int[][] due = {{1, 0}, {1, 2}, {1, 20}, {1, 22}, {2, 11}, {1, 1}, {1, 10}, {1, 12}};
        for (int i = 0; i < 8; i++) {
            c.same("chamber of " + i, x.chamberOf(i), due[i][0]);
            c.same("cell of " + i, x.cellOf(i), due[i][1]);
        }
    }

    static void autoStoreOfNothing() {
        c.about("Promise 12", "A call that stores nothing is not a change.");
        ColdStores x = Checks.loaded("chamber u 1 1 2;door u 0 0;" + PQN);
        c.same("none is waiting", x.autoStore(), 0);
        c.same("undoCount", x.undoCount(), 0);
        x.arrive(0);
        x.setSetpoint(0, 5);
        c.same("none can be stored", x.autoStore(), 0);
        c.same("undoCount", x.undoCount(), 2);
        x.setSetpoint(0, 4);
        c.same("one is stored", x.autoStore(), 1);
        c.same("that is a change", x.undoCount(), 4);
        ColdStores none = new ColdStores();
        c.same("in a new object", none.autoStore(), 0);
        c.same("undoCount", none.undoCount(), 0);
    }

    static void autoStoreAnswersTheCount() {
        c.about("Promise 12", "Returns how many pallets were stored.");
        ColdStores x = Checks.loaded("chamber u 2 4 2;door u 0 0;" + PQN + ";pallet n;pallet n;pallet n;pallet n;"
                + "pallet n;pallet n;pallet n;pallet n");
        c.same("all 8", x.autoStore(), 8);
        c.same("the doors were opened for each", x.openings(0), 8);
        c.same("one change", x.undoCount(), 1);
        x.arrive(2);
        c.same("the chamber is full", x.autoStore(), 0);
        x.undo();
        x.undo();
        c.same("all wait again", x.waitingCount(), 8);
    }

    // ---- promise 13: serve

    static void serveTheNumberOfPallets() {
        c.about("Promise 13", "Serves an order: its number of pallets of its goods is shipped, one after another.");
        ColdStores x = Checks.loaded(TWO + ";pallet n;pallet p;pallet n;pallet n;order n 1 9;order n 2 9");
        x.serve(0);
        c.same("one", x.shippedCount(), 1);
        x.serve(1);
        c.same("and two", x.shippedCount(), 3);
        c.same("no other goods", x.stateOf(1), 0);
        c.same("the others wait no more", x.waitingCount(), 1);
    }

    static void serveTheEarliest() {
        c.about("Promise 13", TAKEN);
        ColdStores x = Checks.loaded(TWO + ";pallet n;pallet n;order n 1 365;order n 1 365;order n 1 365");
        x.advance(1);
        x.arrive(2);
        x.store(0, 0, 0, 0);
        x.retrieve(0);
        x.serve(0);
        c.same("the lowest number, though it waits behind", x.stateOf(0), 2);
        x.serve(1);
        c.same("the other one of that day", x.stateOf(1), 2);
        x.serve(2);
        c.same("the later one", x.stateOf(2), 2);
    }

    static void serveOnlyWhatCanLeave() {
        c.about("Promise 13", TAKEN);
        ColdStores x = Checks.loaded("chamber u 1 3 2;door u 0 0;" + PQN + ";pallet n;pallet q;pallet n;order n 1 9;"
                + "order n 1 9");
        x.store(0, 0, 0, 2);
        x.store(1, 0, 0, 1);
        x.serve(0);
        c.same("not the one behind other goods", x.stateOf(0), 1);
        c.same("the next one", x.stateOf(2), 2);
        c.badState("none that can leave", x, () -> x.serve(1));
        x.retrieve(1);
        c.same("it can leave now", x.serve(1), 1);
    }

    static void serveOneAfterAnother() {
        c.about("Promise 13", TAKEN);
        ColdStores x = Checks.loaded("chamber u 1 4 2;door u 0 0;" + PQN + ";pallet n;pallet n;pallet n;pallet n;"
                + "order n 3 9;order n 4 9");
        for (int i = 0; i < 4; i++) {
            x.store(i, 0, 0, 3 - i);
        }
        c.same("each frees the way of the next", x.serve(0), 3);
        c.same("the nearest were taken", x.stateOf(0), 1);
        x.undo();
        c.same("all", x.serve(1), 4);
    }

    static void serveNoSpoiledPallet() {
        c.about("Promise 13", TAKEN);
        ColdStores x = Checks.loaded("goods a 0 20 2 0 0;pallet a;order a 1 365;order a 1 365");
        x.advance(2);
        x.arrive(0);
        x.save();
        x.serve(0);
        c.same("on its last day it is the first", x.stateOf(0), 2);
        x.restore();
        x.advance(1);
        x.serve(0);
        c.same("a day later it is not taken", x.stateOf(0), 0);
        c.same("but the sound one", x.stateOf(1), 2);
        c.badState("only the spoiled one is left", x, () -> x.serve(1));
    }

    static void serveOpensDoors() {
        c.about("Promise 13", FROM_CHAMBERS);
        ColdStores x = Checks.loaded(TWO + ";pallet n;pallet n;pallet n;pallet n;order n 4 9");
        x.store(0, 0, 0, 1);
        x.store(1, 0, 0, 0);
        x.store(2, 1, 0, 0);
        x.serve(0);
        c.same("two of u", x.openings(0), 2 + 2);
        c.same("one of v", x.openings(1), 1 + 1);
    }

    static void serveWithAFullQuay() {
        c.about("Promise 13", FROM_CHAMBERS);
        ColdStores x = Checks.loaded(TWO + ";pallet n;order n 1 9");
        x.store(0, 0, 0, 0);
        fillTheQuay(x, 0);
        c.same("serve", x.serve(0), 1);
        c.same("waitingCount", x.waitingCount(), 8);
    }

    static void serveAnswersTheStoredOnes() {
        c.about("Promise 13", "Returns how many of these pallets were stored.");
        ColdStores x = Checks.loaded("chamber u 3 3 2;door u 0 0;" + PQN + ";order n 9 9;order n 2 9;pallet n;pallet n");
        c.same("none", x.serve(1), 0);
        for (int i = 2; i < 11; i++) {
            x.arrive(2);
            x.store(i, 0, (10 - i) / 3, (10 - i) % 3);
        }
        c.same("all nine", x.serve(0), 9);
        c.same("shippedCount", x.shippedCount(), 11);
    }

    static void serveOfNoOrder() {
        c.about("Promise 13", "Throws IndexOutOfBoundsException if the order does not exist (checked first)");
        ColdStores x = Checks.loaded(TWO + ";pallet n;order n 1 9;order n 1 9");
        eachWrong(2, wrong -> c.noIndex("serve(" + wrong + ")", x, () -> x.serve(wrong)));
        ColdStores none = Checks.loaded(TWO + ";pallet n");
        c.noIndex("without orders", none, () -> none.serve(0));
    }

    static void serveTwice() {
        c.about("Promise 13", NOT_SERVED);
        ColdStores x = Checks.loaded(TWO + ";pallet n;pallet n;order n 1 9");
        x.serve(0);
        c.badState("served", x, () -> x.serve(0));
        x.undo();
        c.same("undone", x.serve(0), 0);
    }

    static void serveTooLate() {
        c.about("Promise 13", NOT_SERVED);
        ColdStores x = Checks.loaded("goods a 0 20 60 0 0;pallet a;pallet a;pallet a;order a 1 0;order a 1 0;order a 1 3");
        x.serve(0);
        x.advance(1);
        c.badState("due on day 0", x, () -> x.serve(1));
        x.advance(2);
        c.same("on the due day", x.serve(2), 0);
        x.undo();
        x.advance(1);
        c.badState("a day later", x, () -> x.serve(2));
    }

    static void serveWithTooFew() {
        c.about("Promise 13", NOT_SERVED);
        ColdStores x = Checks.loaded(TWO + ";pallet n;pallet q;pallet p;order n 2 9;order n 9 9");
        x.store(0, 0, 0, 0);
        c.badState("1 of 2", x, () -> x.serve(0));
        c.same("no door was opened", x.openings(0), 1);
        c.same("nothing was shipped", x.shippedCount(), 0);
        x.arrive(2);
        c.same("2 of 2", x.serve(0), 1);
        c.badState("none of 9", x, () -> x.serve(1));
    }

    // ---- promise 14: setSetpoint

    static void setSetpointInItsRange() {
        c.about("Promise 14", "- temperature: -30 to 20");
        ColdStores x = Checks.loaded(TWO);
        for (int degrees = -30; degrees <= 20; degrees++) {
            x.setSetpoint(1, degrees);
            c.same("setpoint", x.setpoint(1), degrees);
            c.same("the temperature at once", x.temperature(1), 10 * degrees);
        }
        c.same("the other one", x.setpoint(0), 2);
    }

    static void setSetpointAnswersThePrevious() {
        c.about("Promise 14", "Returns the previous setpoint.");
        ColdStores x = Checks.loaded(TWO);
        c.same("that of the text", x.setSetpoint(0, -30), 2);
        c.same("the coldest", x.setSetpoint(0, 20), -30);
        c.same("the warmest", x.setSetpoint(0, 20), 20);
        c.same("the same is a change, too", x.undoCount(), 3);
    }

    static void setSetpointOfNoChamber() {
        c.about("Promise 14", "Throws IndexOutOfBoundsException if the chamber does not exist (checked first)");
        ColdStores x = Checks.loaded(TWO);
        eachWrong(2, wrong -> {
            c.noIndex("no chamber", x, () -> x.setSetpoint(wrong, 0));
            c.noIndex("no chamber and no temperature", x, () -> x.setSetpoint(wrong, 21));
        });
    }

    static void setSetpointOutOfRange() {
        c.about("Promise 14", "Throws IllegalArgumentException if temperature is out of range");
        ColdStores x = Checks.loaded(TWO);
        for (int wrong : new int[] {-31, 21, 40, 256, LEAST, MOST}) {
            c.badArgument("setSetpoint(0, " + wrong + ")", x, () -> x.setSetpoint(0, wrong));
        }
    }

    // ---- promise 15: advance

    static void advanceByDays() {
        c.about("Promise 15", "- days: number of nights, 1 to 60");
        ColdStores x = new ColdStores();
        x.advance(1);
        c.same("one night", x.currentDay(), 1);
        x.advance(60);
        c.same("60 nights", x.currentDay(), 61);
        c.same("two changes", x.undoCount(), 2);
        x.undo();
        c.same("all 60 undone", x.currentDay(), 1);
    }

    static void advanceAnswersTheNewlySpoiled() {
        c.about("Promise 15", "Returns how many pallets that are waiting or stored became spoiled.");
        ColdStores x = Checks.loaded("chamber u 1 1 2;door u 0 0;goods a 0 20 3 0 0;pallet a;pallet a;pallet a;"
                + "pallet a");
        x.store(0, 0, 0, 0);
        x.ship(1);
        x.discard(2);
        c.same("none yet", x.advance(3), 0);
        c.same("the waiting and the stored one", x.advance(1), 2);
        c.same("not again", x.advance(60), 0);
        x.arrive(0);
        c.same("in the first of many nights", x.advance(60), 1);
        ColdStores none = new ColdStores();
        c.same("without pallets", none.advance(60), 0);
    }

    static void advanceByNoSuchDays() {
        c.about("Promise 15", NOT_ADVANCED);
        ColdStores x = Checks.loaded(TWO + ";pallet n");
        for (int wrong : new int[] {0, -1, 61, 365, LEAST, MOST}) {
            c.badArgument("advance(" + wrong + ")", x, () -> x.advance(wrong));
        }
    }

    static void advanceBeyondTheYear() {
        c.about("Promise 15", NOT_ADVANCED);
        ColdStores x = Checks.loaded(TWO);
        for (int i = 0; i < 5; i++) {
            x.advance(60);
        }
        x.advance(6);
        c.badArgument("306 and 60", x, () -> x.advance(60));
        c.same("306 and 59", x.advance(59), 0);
        c.same("currentDay", x.currentDay(), 365);
        c.badArgument("365 and 1", x, () -> x.advance(1));
        c.badArgument("365 and the greatest int", x, () -> x.advance(MOST));
        x.undo();
        c.same("undone", x.advance(1), 0);
    }
}
