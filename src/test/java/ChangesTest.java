/** Promises 6 to 15. */
public final class ChangesTest {
    private static final Checks c = new Checks();
    private static final int LEAST = Integer.MIN_VALUE;
    private static final int MOST = Integer.MAX_VALUE;

    /** f taints m; b is neutral; c is another chamber, too warm for f and m. */
    private static final String GOODS = "goods f 0 4 10 5 2;goods m 0 4 20 1 3;goods b -30 20 60 0 9";
    private static final String SMALL = "chamber a 2 3 2;door a 0 0;chamber k 1 2 10;door k 0 1;" + GOODS;

    public static void main(String[] args) {
        arrive();
        store();
        retrieve();
        shift();
        shiftAround();
        ship();
        discard();
        autoStore();
        autoStoreTies();
        autoStoreElsewhere();
        serve();
        serveFromBehind();
        serveOldest();
        setSetpoint();
        advance();
        advanceInChambers();
        advanceByTenths();
        taintOnTheQuay();
        taintByTheLastOne();
        wrongCallsChangeNothing();
        c.end("ChangesTest");
    }

    /** Promise 6. */
    private static void arrive() {
        ColdStores x = Checks.loaded(SMALL + ";pallet f");
        c.noIndex("arrive(-1)", () -> x.arrive(-1));
        c.noIndex("arrive(3)", () -> x.arrive(3));
        x.advance(2);
        c.same("arrive", x.arrive(2), 1);
        c.same("goodsOf", x.goodsOf(1), 2);
        c.same("arrivalDay", x.arrivalDay(1), 2);
        c.same("arrivalDay of the first", x.arrivalDay(0), 0);
        c.same("stateOf", x.stateOf(1), 0);
        c.same("heat", x.heat(1), 0);
        c.same("taint", x.taint(1), 0);
        c.same("waitingPallet", x.waitingPallet(1), 1);
        for (int i = 2; i < 8; i++) {
            c.same("arrive", x.arrive(2), i);
        }
        c.badState("a ninth waiting", () -> x.arrive(2));
        c.noIndex("goods are checked first", () -> x.arrive(3));
        c.same("waitingCount", x.waitingCount(), 8);
        x.discard(3);
        c.same("arrive again", x.arrive(0), 8);
        c.same("the last one waiting", x.waitingPallet(7), 8);
        for (int i = 9; i < 40; i++) {
            x.discard(x.waitingPallet(0));
            c.same("arrive", x.arrive(1), i);
        }
        x.discard(x.waitingPallet(0));
        c.badState("a 41st pallet", () -> x.arrive(1));
        c.noIndex("goods are checked first", () -> x.arrive(-1));
        c.same("palletCount", x.palletCount(), 40);
        c.same("waitingCount", x.waitingCount(), 7);
    }

    /** Promise 7. */
    private static void store() {
        ColdStores x = Checks.loaded(SMALL + ";pallet f;pallet m;pallet b");
        c.noIndex("no pallet", () -> x.store(3, 0, 0, 0));
        c.noIndex("pallet -1", () -> x.store(-1, 0, 0, 0));
        c.noIndex("no chamber", () -> x.store(0, 2, 0, 0));
        c.noIndex("chamber -1", () -> x.store(0, -1, 0, 0));
        c.noIndex("no pallet, and no row", () -> x.store(3, 0, 9, 9));
        c.noIndex("no chamber, and no row", () -> x.store(0, 2, 9, 9));
        c.badArgument("no row", () -> x.store(0, 0, 2, 0));
        c.badArgument("no row", () -> x.store(0, 0, -1, 0));
        c.badArgument("no column", () -> x.store(0, 0, 0, 3));
        c.badArgument("no column", () -> x.store(0, 0, 0, -1));
        c.badArgument("no column there", () -> x.store(0, 1, 0, 2));
        c.badArgument("no row there", () -> x.store(0, 1, 1, 0));
        c.same("store", x.store(0, 0, 1, 2), 4);
        c.same("stateOf", x.stateOf(0), 1);
        c.same("chamberOf", x.chamberOf(0), 0);
        c.same("cellOf", x.cellOf(0), 12);
        c.same("openings", x.openings(0), 1);
        c.same("openings", x.openings(1), 0);
        c.same("waitingCount", x.waitingCount(), 2);
        c.same("waitingPallet", x.waitingPallet(0), 1);
        c.badState("not waiting", () -> x.store(0, 0, 0, 0));
        c.badArgument("not waiting, and no row", () -> x.store(0, 0, 2, 0));
        c.badState("not free", () -> x.store(2, 0, 1, 2));
        c.badState("would be tainted", () -> x.store(1, 0, 1, 1));
        c.badState("would be tainted", () -> x.store(1, 0, 0, 2));
        c.same("store", x.store(2, 0, 0, 0), 1);
        c.badState("no free way", () -> x.store(1, 0, 0, 1));
        c.same("openings", x.openings(0), 2);
        c.same("a setpoint does not matter", x.store(1, 1, 0, 0), 2);
        c.same("openings", x.openings(1), 1);
        c.same("waitingCount", x.waitingCount(), 0);
        c.same("undoCount", x.undoCount(), 3);
    }

    /** Promise 8. */
    private static void retrieve() {
        ColdStores x = Checks.loaded(SMALL + ";pallet b;pallet b;pallet b;pallet b");
        c.noIndex("no pallet", () -> x.retrieve(4));
        c.noIndex("pallet -1", () -> x.retrieve(-1));
        c.badState("waiting", () -> x.retrieve(0));
        x.store(0, 0, 0, 2);
        x.store(1, 0, 1, 0);
        x.store(2, 0, 0, 1);
        c.same("reachableCells", x.reachableCells(0), 1);
        c.badState("no way", () -> x.retrieve(0));
        c.same("retrieve beside the door", x.retrieve(2), 2);
        c.same("openings", x.openings(0), 4);
        c.same("stateOf", x.stateOf(2), 0);
        c.same("chamberOf", x.chamberOf(2), -1);
        c.same("cellOf", x.cellOf(2), -1);
        c.same("the last one waiting", x.waitingPallet(1), 2);
        c.same("the first one waiting", x.waitingPallet(0), 3);
        c.same("retrieve", x.retrieve(0), 3);
        c.same("palletAt", x.palletAt(0, 0, 2), -1);
        x.store(3, 0, 0, 0);
        c.badState("behind the door's cell", () -> x.retrieve(1));
        c.same("retrieve in the door's cell", x.retrieve(3), 1);
        for (int i = 0; i < 5; i++) {
            x.arrive(2);
        }
        c.same("waitingCount", x.waitingCount(), 8);
        c.badState("8 are waiting", () -> x.retrieve(1));
        x.ship(0);
        c.same("7 are waiting", x.retrieve(1), 2);
        c.badState("shipped", () -> x.retrieve(0));
    }

    /** Promise 9. */
    private static void shift() {
        ColdStores x = Checks.loaded(SMALL + ";pallet f;pallet m;pallet b");
        c.noIndex("no pallet", () -> x.shift(3, 0, 0));
        c.noIndex("no pallet, no row", () -> x.shift(-1, 9, 0));
        c.badState("waiting", () -> x.shift(0, 0, 0));
        c.badState("waiting, and no row", () -> x.shift(0, 9, 9));
        x.store(0, 0, 1, 2);
        c.badArgument("no row", () -> x.shift(0, 2, 0));
        c.badArgument("no row", () -> x.shift(0, -1, 0));
        c.badArgument("no column", () -> x.shift(0, 0, 3));
        c.badArgument("no column", () -> x.shift(0, 0, -1));
        c.badState("its own cell", () -> x.shift(0, 1, 2));
        c.same("to a neighbouring cell", x.shift(0, 1, 1), 1);
        c.same("openings", x.openings(0), 1);
        c.same("cellOf", x.cellOf(0), 11);
        c.same("palletAt", x.palletAt(0, 1, 1), 0);
        c.same("palletAt", x.palletAt(0, 1, 2), -1);
        c.same("away", x.shift(0, 0, 2), 2);
        c.same("store", x.store(1, 0, 0, 0), 1);
        c.badState("beside what it taints", () -> x.shift(0, 0, 1));
        c.badState("beside what taints it", () -> x.shift(1, 0, 1));
        c.badState("not free", () -> x.shift(1, 0, 2));
        c.same("over", x.shift(1, 1, 0), 1);
        c.same("store", x.store(2, 0, 0, 0), 1);
        c.same("undoCount", x.undoCount(), 6);
        c.same("stateOf", x.stateOf(0), 1);
        x.undo();
        c.same("the door's cell does not matter", x.shift(1, 0, 0), 1);
    }

    private static void shiftAround() {
        ColdStores x = Checks.loaded("chamber a 3 3 2;door a 0 0;door a 2 2;" + GOODS
                + ";pallet b;pallet b;pallet b;pallet b;pallet b");
        x.store(0, 0, 1, 1);
        x.store(1, 0, 1, 0);
        c.same("around", x.shift(1, 1, 2), 4);
        x.store(2, 0, 2, 1);
        x.store(3, 0, 1, 0);
        c.badState("cannot be reached", () -> x.shift(1, 2, 0));
        c.same("away", x.shift(2, 2, 2), 1);
        c.same("it can be reached by another", x.shift(3, 2, 1), 2);
        c.badState("walls", () -> x.shift(2, 1, 0));
    }

    /** Promise 10. */
    private static void ship() {
        ColdStores x = Checks.loaded(SMALL + ";pallet f;pallet m;pallet b");
        c.noIndex("no pallet", () -> x.ship(3));
        c.noIndex("pallet -1", () -> x.ship(-1));
        c.same("ship", x.ship(1), 1);
        c.badState("shipped", () -> x.ship(1));
        c.same("stateOf", x.stateOf(1), 2);
        c.same("chamberOf", x.chamberOf(1), -1);
        c.same("waitingPallet", x.waitingPallet(1), 2);
        x.store(0, 0, 0, 0);
        c.badState("stored", () -> x.ship(0));
        x.retrieve(0);
        c.same("advance", x.advance(2), 1);
        c.badState("spoiled", () -> x.ship(0));
        c.same("ship", x.ship(2), 2);
        x.discard(0);
        c.badState("discarded", () -> x.ship(0));
        c.same("shippedCount", x.shippedCount(), 2);
    }

    /** Promise 11. */
    private static void discard() {
        ColdStores x = Checks.loaded(SMALL + ";pallet f;pallet m;pallet b");
        c.noIndex("no pallet", () -> x.discard(3));
        c.noIndex("pallet -1", () -> x.discard(-1));
        x.store(1, 0, 0, 0);
        c.badState("stored", () -> x.discard(1));
        x.ship(2);
        c.badState("shipped", () -> x.discard(2));
        x.advance(2);
        c.yes("spoiled", x.isSpoiled(0));
        c.same("discard a spoiled one", x.discard(0), 1);
        c.badState("discarded", () -> x.discard(0));
        c.same("stateOf", x.stateOf(0), 3);
        x.retrieve(1);
        c.same("discard a sound one", x.discard(1), 2);
        c.same("waitingCount", x.waitingCount(), 0);
        c.same("discardedCount", x.discardedCount(), 2);
        c.same("shippedCount", x.shippedCount(), 1);
    }

    /** Promise 12. */
    private static void autoStore() {
        ColdStores x = Checks.loaded(SMALL + ";pallet f;pallet m;pallet b;pallet m");
        c.same("autoStore", x.autoStore(), 4);
        c.same("f in the deepest cell", x.cellOf(0), 12);
        c.same("m away from it", x.cellOf(1), 1);
        c.same("in the first chamber", x.chamberOf(1), 0);
        c.same("b as deep as can be reached", x.chamberOf(2), 0);
        c.same("b as deep as can be reached", x.cellOf(2), 11);
        c.same("another m", x.cellOf(3), 10);
        c.same("openings", x.openings(0), 4);
        c.same("openings", x.openings(1), 0);
        c.same("one change", x.undoCount(), 1);
        c.same("nothing waits", x.autoStore(), 0);
        c.same("no change", x.undoCount(), 1);
        c.same("undo", x.undo(), 0);
        c.same("waitingCount", x.waitingCount(), 4);
        c.same("openings", x.openings(0), 0);
        x.setSetpoint(0, 5);
        c.same("only b fits", x.autoStore(), 1);
        c.same("into the deeper chamber", x.chamberOf(2), 0);
        c.same("waitingPallet", x.waitingPallet(0), 0);
        c.same("waitingPallet", x.waitingPallet(2), 3);
        c.same("nothing fits", x.autoStore(), 0);
        c.same("undoCount", x.undoCount(), 2);
        x.setSetpoint(0, 4);
        c.same("the highest temperature fits", x.autoStore(), 3);
        x.undo();
        x.setSetpoint(0, -1);
        c.same("too cold", x.autoStore(), 0);
        x.setSetpoint(0, 0);
        c.same("the lowest temperature fits", x.autoStore(), 3);
    }

    /** A chamber without a cell for the pallet does not keep it from another one. */
    private static void autoStoreElsewhere() {
        ColdStores x = Checks.loaded("chamber a 2 2 0;chamber k 1 1 0;door k 0 0;chamber l 1 1 0;door l 0 0;"
                + "goods b 0 4 9 0 0;pallet b;pallet b;pallet b");
        c.same("autoStore", x.autoStore(), 2);
        c.same("chamberOf", x.chamberOf(0), 1);
        c.same("chamberOf", x.chamberOf(1), 2);
        c.same("waitingPallet", x.waitingPallet(0), 2);
        c.same("openings", x.openings(0), 0);
        c.same("openings", x.openings(1), 1);
    }

    private static void autoStoreTies() {
        ColdStores x = Checks.loaded("chamber a 1 2 0;door a 0 0;chamber k 3 3 0;door k 1 1;"
                + "chamber l 3 3 0;door l 1 1;goods b 0 4 9 0 0;pallet b;pallet b;pallet b;pallet b;pallet b;"
                + "pallet b;pallet b;pallet b");
        c.same("autoStore", x.autoStore(), 8);
        int[] chambers = {1, 1, 1, 1, 2, 2, 2, 2};
        int[] cells = {0, 2, 20, 22, 0, 2, 20, 22};
        for (int i = 0; i < 8; i++) {
            c.same("chamberOf " + i, x.chamberOf(i), chambers[i]);
            c.same("cellOf " + i, x.cellOf(i), cells[i]);
        }
        for (int i = 0; i < 8; i++) {
            x.arrive(0);
        }
        c.same("autoStore", x.autoStore(), 8);
        c.same("then the lowest chamber", x.chamberOf(8), 0);
        c.same("its deepest cell", x.cellOf(8), 1);
        c.same("then the row", x.cellOf(9), 1);
        c.same("then the column", x.cellOf(10), 10);
    }

    /** Promise 13. */
    private static void serve() {
        ColdStores x = Checks.loaded(SMALL + ";pallet m;pallet b;pallet b;pallet b;order b 2 3;order b 2 3;"
                + "order m 1 0;order f 1 3");
        c.noIndex("no order", () -> x.serve(4));
        c.noIndex("order -1", () -> x.serve(-1));
        x.store(1, 0, 1, 2);
        c.same("one stored, one waiting", x.serve(0), 1);
        c.same("stateOf", x.stateOf(1), 2);
        c.same("stateOf", x.stateOf(2), 2);
        c.same("stateOf", x.stateOf(3), 0);
        c.same("openings", x.openings(0), 2);
        c.same("palletAt", x.palletAt(0, 1, 2), -1);
        c.same("chamberOf", x.chamberOf(1), -1);
        c.same("shippedCount", x.shippedCount(), 2);
        c.same("served", x.order(0, 3), 1);
        c.same("not served", x.order(1, 3), 0);
        c.badState("served before", () -> x.serve(0));
        c.badState("not enough", () -> x.serve(1));
        c.same("nothing was changed", x.stateOf(3), 0);
        c.same("nothing was changed", x.undoCount(), 2);
        c.badState("no pallet of it at all", () -> x.serve(3));
        x.arrive(2);
        x.advance(1);
        c.badState("too late", () -> x.serve(2));
        x.advance(2);
        c.same("on the due day", x.serve(1), 0);
        c.same("shippedCount", x.shippedCount(), 4);
        x.undo();
        c.same("not served again", x.order(1, 3), 0);
        x.advance(1);
        c.badState("a day too late", () -> x.serve(1));
    }

    private static void serveFromBehind() {
        ColdStores x = Checks.loaded("chamber a 1 4 0;door a 0 0;goods b 0 4 60 0 0;goods d 0 4 60 0 0;"
                + "pallet b;pallet b;pallet d;pallet b;order b 3 9;order b 2 9;quay 0");
        x.store(1, 0, 0, 3);
        x.store(0, 0, 0, 2);
        c.same("the first frees the way for the second", x.serve(1), 2);
        c.same("openings", x.openings(0), 4);
        x.undo();
        x.store(2, 0, 0, 0);
        c.badState("none can be reached", () -> x.serve(1));
        c.same("availableFor", x.availableFor(1), 1);
        x.retrieve(2);
        for (int i = 0; i < 5; i++) {
            x.arrive(1);
        }
        c.same("waitingCount", x.waitingCount(), 7);
        x.arrive(1);
        c.same("the number of waiting pallets does not matter", x.serve(0), 2);
        c.same("waitingCount", x.waitingCount(), 7);
    }

    private static void serveOldest() {
        ColdStores x = Checks.loaded("chamber a 1 3 0;door a 0 0;goods b 0 4 5 0 0;pallet b;pallet b;"
                + "order b 1 300;order b 1 300;order b 1 300;quay 0");
        x.advance(1);
        x.arrive(0);
        x.arrive(0);
        x.store(0, 0, 0, 2);
        x.store(2, 0, 0, 1);
        c.same("the oldest that can leave", x.serve(0), 0);
        c.same("stateOf", x.stateOf(1), 2);
        c.same("the lower number of the two", x.serve(1), 1);
        c.same("stateOf", x.stateOf(2), 2);
        c.same("advance", x.advance(5), 1);
        c.same("not the spoiled one", x.serve(2), 0);
        c.same("stateOf", x.stateOf(3), 2);
        c.same("stateOf", x.stateOf(0), 1);
    }

    /** Promise 14. */
    private static void setSetpoint() {
        ColdStores x = Checks.loaded(SMALL);
        c.noIndex("no chamber", () -> x.setSetpoint(2, 0));
        c.noIndex("no chamber, checked first", () -> x.setSetpoint(-1, 99));
        c.badArgument("too cold", () -> x.setSetpoint(0, -31));
        c.badArgument("too warm", () -> x.setSetpoint(0, 21));
        c.same("the coldest", x.setSetpoint(0, -30), 2);
        c.same("temperature", x.temperature(0), -300);
        c.same("the warmest", x.setSetpoint(0, 20), -30);
        c.same("setpoint", x.setpoint(0), 20);
        c.same("the other one", x.setpoint(1), 10);
        c.same("the same again", x.setSetpoint(0, 20), 20);
        c.same("is a change", x.undoCount(), 3);
    }

    /** Promise 15. */
    private static void advance() {
        ColdStores x = Checks.loaded(SMALL + ";pallet f;pallet m;pallet b");
        c.badArgument("no night", () -> x.advance(0));
        c.badArgument("61 nights", () -> x.advance(61));
        c.badArgument("-1 nights", () -> x.advance(-1));
        c.same("one night", x.advance(1), 0);
        c.same("currentDay", x.currentDay(), 1);
        c.same("heat", x.heat(0), 80);
        c.same("heat of b", x.heat(2), 0);
        c.same("f and m by heat", x.advance(1), 2);
        c.same("they are spoiled already", x.advance(57), 0);
        c.same("the 60th", x.advance(1), 0);
        c.no("on the last day", x.isSpoiled(2));
        c.same("the day after", x.advance(1), 1);
        c.yes("spoiled", x.isSpoiled(2));
        for (int i = 0; i < 5; i++) {
            x.advance(60);
        }
        c.same("currentDay", x.currentDay(), 361);
        c.badArgument("beyond 365", () -> x.advance(5));
        c.same("currentDay", x.currentDay(), 361);
        c.same("the last nights", x.advance(4), 0);
        c.same("currentDay", x.currentDay(), 365);
        c.badArgument("beyond 365", () -> x.advance(1));
    }

    private static void advanceInChambers() {
        ColdStores x = Checks.loaded("chamber a 1 3 0;door a 0 0;goods n -5 0 60 0 0;goods w 3 4 60 0 0;"
                + "pallet n;pallet w;limits 999 10;quay -6");
        x.store(0, 0, 0, 2);
        x.store(1, 0, 0, 1);
        c.same("openings", x.openings(0), 2);
        x.advance(1);
        c.same("warming", x.temperature(0), 4);
        c.same("openings", x.openings(0), 0);
        c.same("too warm", x.heat(0), 4);
        c.same("too cold", x.heat(1), 26);
        x.advance(2);
        c.same("warming", x.temperature(0), 1);
        c.same("heat", x.heat(0), 4 + 2 + 1);
        c.same("heat", x.heat(1), 26 + 28 + 29);
        x.retrieve(1);
        x.advance(1);
        c.same("(1 + 4) / 2", x.temperature(0), 2);
        c.same("too cold on the quay", x.heat(1), 83 + 90);
        x.setSetpoint(0, -6);
        x.advance(1);
        c.same("cold", x.temperature(0), -59);
        c.same("below the lowest", x.heat(0), 7 + 2 + 9);
    }

    /** The heat is counted in tenths, from the bounds of the goods on. */
    private static void advanceByTenths() {
        ColdStores x = Checks.loaded("chamber a 1 2 7;door a 0 0;chamber k 1 1 4;door k 0 0;goods w 5 7 60 0 0;"
                + "pallet w;pallet w;pallet w;quay 5;limits 999 0");
        x.store(0, 0, 0, 1);
        x.store(1, 1, 0, 0);
        x.advance(1);
        c.same("72 is 2 above 70", x.heat(0), 2);
        c.same("42 is 8 below 50", x.heat(1), 8);
        c.same("50 is not below 50", x.heat(2), 0);
        x.advance(2);
        c.same("71 is 1 above 70", x.heat(0), 3);
        c.same("41 and 40", x.heat(1), 8 + 9 + 10);

        ColdStores y = Checks.loaded("chamber a 1 1 6;door a 0 0;chamber k 1 1 4;door k 0 0;chamber l 1 1 5;"
                + "door l 0 0;goods w 5 7 60 0 0;pallet w;pallet w;pallet w;quay 5");
        for (int i = 0; i < 3; i++) {
            y.store(i, i, 0, 0);
            y.retrieve(i);
            y.store(i, i, 0, 0);
        }
        y.advance(1);
        c.same("66 is not above 70", y.heat(0), 0);
        c.same("46 is 4 below 50", y.heat(1), 4);
        c.same("56 is not below 50", y.heat(2), 0);
        y.advance(1);
        c.same("63", y.heat(0), 0);
        c.same("43", y.heat(1), 11);
        c.same("53 is not below 50", y.heat(2), 0);
    }

    private static void taintOnTheQuay() {
        ColdStores x = Checks.loaded("chamber a 1 1 12;door a 0 0;goods p -9 20 60 7 2;goods q -9 20 60 4 3;"
                + "goods r -9 20 60 0 4;pallet p;pallet p;pallet q;pallet r;pallet q;limits 1 9");
        c.same("advance", x.advance(1), 0);
        c.same("p by q", x.taint(0), 2);
        c.same("p by q, not by p", x.taint(1), 2);
        c.same("q by p", x.taint(2), 4);
        c.same("r by p, the greatest", x.taint(3), 3);
        c.same("q by p, not by q", x.taint(4), 4);
        x.ship(1);
        x.store(0, 0, 0, 0);
        c.same("advance", x.advance(2), 0);
        c.same("the stored one", x.taint(0), 2);
        c.same("the shipped one", x.taint(1), 2);
        c.same("q by nothing", x.taint(2), 4);
        c.same("r by q's 4: not greater", x.taint(3), 3);
        x.retrieve(0);
        c.same("advance", x.advance(1), 0);
        c.same("q", x.taint(2), 8);
        c.same("advance: two q", x.advance(1), 2);
        c.yes("taint spoils", x.isSpoiled(2));
        c.same("r: 9 is not above the limit", x.taint(3), 9);
        c.no("r", x.isSpoiled(3));
        c.same("advance: r", x.advance(1), 1);
        c.same("p", x.taint(0), 8);
    }

    /** A pallet that has left the quay taints none there. */
    private static void taintByTheLastOne() {
        ColdStores x = Checks.loaded("chamber a 1 1 12;door a 0 0;goods p -9 20 60 7 2;goods q -9 20 60 0 3;"
                + "pallet q;pallet p;pallet p;pallet p");
        x.ship(3);
        x.discard(2);
        x.advance(1);
        c.same("one is still there", x.taint(0), 4);
        x.store(1, 0, 0, 0);
        x.advance(1);
        c.same("none is there", x.taint(0), 4);
    }

    private static void wrongCallsChangeNothing() {
        ColdStores x = Checks.loaded(SMALL + ";pallet f;pallet m;order f 2 0;order f 1 0");
        String before = Checks.textOf(x);
        int[] wrong = {-1, LEAST, MOST, 6};
        for (int w : wrong) {
            c.noIndex("arrive", () -> x.arrive(w));
            c.noIndex("store", () -> x.store(w, 0, 0, 0));
            c.noIndex("store", () -> x.store(0, w, 0, 0));
            c.badArgument("store", () -> x.store(0, 0, w, 0));
            c.badArgument("store", () -> x.store(0, 0, 0, w));
            c.noIndex("retrieve", () -> x.retrieve(w));
            c.noIndex("shift", () -> x.shift(w, 0, 0));
            c.noIndex("ship", () -> x.ship(w));
            c.noIndex("discard", () -> x.discard(w));
            c.noIndex("serve", () -> x.serve(w));
            c.noIndex("setSetpoint", () -> x.setSetpoint(w, 0));
        }
        c.badArgument("setSetpoint", () -> x.setSetpoint(0, LEAST));
        c.badArgument("setSetpoint", () -> x.setSetpoint(0, MOST));
        c.badArgument("advance", () -> x.advance(LEAST));
        c.badArgument("advance", () -> x.advance(MOST));
        c.badState("serve", () -> x.serve(0));
        c.same("undoCount", x.undoCount(), 0);
        c.same("shippedCount", x.shippedCount(), 0);
        c.same("openings", x.openings(0), 0);
        c.sameText("the text", Checks.textOf(x), before);
    }
}
