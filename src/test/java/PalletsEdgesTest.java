/** A test for each sentence of promises 16 to 42 that names a boundary. */
public final class PalletsEdgesTest {
    private static final Checks c = new Checks();
    private static final int LEAST = Integer.MIN_VALUE;
    private static final int MOST = Integer.MAX_VALUE;
    private static final String NO_GOODS = "Throws IndexOutOfBoundsException if the goods do not exist";
    private static final String NO_PALLET = "Throws IndexOutOfBoundsException if the pallet does not exist";
    private static final String CHAMBER = "chamber u 6 4 2;door u 0 0;";

    public static void main(String[] args) throws java.io.IOException {
        c.runAll(PalletsEdgesTest.class);
        c.covered(16, 42);
        c.end("PalletsEdgesTest");
    }

    private static String times(int count, String text) {
        return text.repeat(count);
    }

    /** So many sorts of goods, named a and on. */
    private static String sorts(int count) {
        StringBuilder text = new StringBuilder("quay 12");
        for (int i = 0; i < count; i++) {
            text.append(";goods ").append((char) ('a' + i)).append(" ").append(i).append(" ").append(i + 9)
                    .append(" ").append(i + 1).append(" 0 0");
        }
        return text.toString();
    }

    /** An object with a pallet in each state, number and state being the same. */
    private static ColdStores oneInEachState() {
        ColdStores x = Checks.loaded(CHAMBER + "goods a 0 4 9 0 0" + times(4, ";pallet a"));
        x.store(1, 0, 5, 3);
        x.ship(2);
        x.discard(3);
        return x;
    }

    private static ColdStores withForty() {
        ColdStores x = Checks.loaded(CHAMBER + "goods a 0 4 9 0 0" + times(8, ";pallet a"));
        for (int i = 8; i < 40; i++) {
            x.discard(i - 8);
            x.arrive(0);
        }
        return x;
    }

    /** A question about pallets, asked of no pallets, of some in each state, and of 40. */
    private static void palletNumbers(String name, Question question) {
        ColdStores none = new ColdStores();
        c.numbers(name + " without pallets", 0, number -> question.ask(none, number));
        ColdStores some = oneInEachState();
        c.numbers(name + " of 4", 4, number -> question.ask(some, number));
        ColdStores all = withForty();
        c.numbers(name + " of 40", 40, number -> question.ask(all, number));
        c.noIndex(name + " of 40", all, () -> question.ask(all, 40));
    }

    private static void goodsNumbers(String name, Question question) {
        for (int sorts = 0; sorts <= 6; sorts++) {
            ColdStores x = Checks.loaded(sorts(sorts));
            c.numbers(name + " of " + sorts, sorts, number -> question.ask(x, number));
        }
    }

    private interface Question {
        long ask(ColdStores x, int number);
    }

    // ---- promises 16 to 21: counts

    static void chamberCounts() {
        c.about("Promise 16", "Returns 0 to 3.");
        c.same("a new object", new ColdStores().chamberCount(), 0);
        c.same("one", Checks.loaded("chamber u 1 1 0").chamberCount(), 1);
        c.same("three", Checks.loaded("chamber u 1 1 0;chamber v 1 1 0;chamber w 1 1 0").chamberCount(), 3);
    }

    static void goodsCounts() {
        c.about("Promise 17", "Returns 0 to 6.");
        c.same("a new object", new ColdStores().goodsCount(), 0);
        for (int sorts = 0; sorts <= 6; sorts++) {
            c.same("goodsCount", Checks.loaded(sorts(sorts)).goodsCount(), sorts);
        }
    }

    static void palletCounts() {
        c.about("Promise 18", "Returns 0 to 40.");
        ColdStores x = Checks.loaded(sorts(1));
        c.same("none", x.palletCount(), 0);
        for (int i = 1; i <= 40; i++) {
            x.arrive(0);
            x.ship(i - 1);
            c.same("palletCount", x.palletCount(), i);
        }
        c.badState("one more", x, () -> x.arrive(0));
    }

    static void palletsThatAreGone() {
        c.about("Promise 18", "Returns the number of all pallets, also of those that were shipped or discarded.");
        ColdStores x = oneInEachState();
        c.same("palletCount", x.palletCount(), 4);
        c.same("waitingCount", x.waitingCount(), 1);
    }

    static void orderCounts() {
        c.about("Promise 19", "Returns 0 to 10.");
        c.same("a new object", new ColdStores().orderCount(), 0);
        for (int i = 0; i <= 10; i++) {
            c.same("orderCount", Checks.loaded(sorts(1) + times(i, ";order a 1 1")).orderCount(), i);
        }
        ColdStores x = Checks.loaded(sorts(1) + ";pallet a;order a 1 1");
        x.serve(0);
        c.same("a served one counts", x.orderCount(), 1);
    }

    static void days() {
        c.about("Promise 20", "Returns 0 to 365.");
        ColdStores x = new ColdStores();
        c.same("the first", x.currentDay(), 0);
        x.advance(5);
        for (int i = 0; i < 6; i++) {
            x.advance(60);
        }
        c.same("the last", x.currentDay(), 365);
    }

    static void waitingCounts() {
        c.about("Promise 21", "Returns 0 to 8.");
        ColdStores x = Checks.loaded(sorts(1));
        c.same("none", x.waitingCount(), 0);
        for (int i = 1; i <= 8; i++) {
            x.arrive(0);
            c.same("waitingCount", x.waitingCount(), i);
        }
        for (int i = 7; i >= 0; i--) {
            x.ship(i);
            c.same("waitingCount", x.waitingCount(), i);
        }
    }

    // ---- promise 22: waitingPallet

    static void firstWaiting() {
        c.about("Promise 22", "- index: 0 for the one that came to the quay first, and so on");
        ColdStores x = Checks.loaded(CHAMBER + sorts(1) + ";pallet a;pallet a;pallet a");
        x.store(0, 0, 0, 0);
        c.same("the first", x.waitingPallet(0), 1);
        x.retrieve(0);
        c.same("still", x.waitingPallet(0), 1);
        c.same("the last", x.waitingPallet(2), 0);
    }

    static void eightWaitingPallets() {
        c.about("Promise 22", "Returns the number of the pallet.");
        ColdStores x = withForty();
        for (int i = 0; i < 8; i++) {
            c.same("waitingPallet " + i, x.waitingPallet(i), 32 + i);
        }
    }

    static void noSuchWaitingPallet() {
        c.about("Promise 22", "Throws IndexOutOfBoundsException if there is no such index");
        ColdStores none = new ColdStores();
        c.numbers("waitingPallet", 0, none::waitingPallet);
        ColdStores one = oneInEachState();
        c.numbers("waitingPallet", 1, one::waitingPallet);
        ColdStores eight = withForty();
        c.numbers("waitingPallet", 8, eight::waitingPallet);
        eight.ship(35);
        c.numbers("waitingPallet", 7, eight::waitingPallet);
    }

    // ---- promise 23: order

    static void propertiesOfAnOrder() {
        c.about("Promise 23", "- what: 0 its goods, 1 its number of pallets, 2 its due day, 3 whether it was served (1 or 0)");
        ColdStores x = Checks.loaded(sorts(6) + ";pallet f;order f 1 365;order a 9 0");
        x.serve(0);
        int[][] due = {{5, 1, 365, 1}, {0, 9, 0, 0}};
        for (int order = 0; order < 2; order++) {
            for (int what = 0; what < 4; what++) {
                c.same("order(" + order + ", " + what + ")", x.order(order, what), due[order][what]);
            }
        }
    }

    static void propertyAfterUndo() {
        c.about("Promise 23", "Returns that property.");
        ColdStores x = Checks.loaded(sorts(1) + ";pallet a;order a 1 365");
        x.serve(0);
        x.undo();
        c.same("not served", x.order(0, 3), 0);
    }

    static void noSuchOrder() {
        c.about("Promise 23", "Throws IndexOutOfBoundsException if the order does not exist (checked first)");
        for (int count = 0; count <= 10; count += 5) {
            ColdStores x = Checks.loaded(sorts(1) + times(count, ";order a 1 1"));
            c.numbers("order", count, number -> x.order(number, 0));
            for (int wrong : new int[] {LEAST, -1, count, MOST}) {
                c.noIndex("no order and no property", x, () -> x.order(wrong, 4));
            }
        }
    }

    static void noSuchProperty() {
        c.about("Promise 23", "Throws IllegalArgumentException if what is out of range");
        ColdStores x = Checks.loaded(sorts(1) + ";order a 1 1");
        for (int wrong : new int[] {LEAST, -1, 4, 5, 256, MOST}) {
            c.badArgument("order(0, " + wrong + ")", x, () -> x.order(0, wrong));
        }
    }

    // ---- promises 24 and 25

    static void shippedCounts() {
        c.about("Promise 24", "Returns how many pallets have been shipped, also by serve().");
        ColdStores x = Checks.loaded(CHAMBER + sorts(1) + ";pallet a;pallet a;pallet a;pallet a;order a 2 0");
        c.same("none", x.shippedCount(), 0);
        x.ship(3);
        c.same("by ship", x.shippedCount(), 1);
        x.store(0, 0, 0, 0);
        x.serve(0);
        c.same("by serve", x.shippedCount(), 3);
        x.discard(2);
        c.same("not by discard", x.shippedCount(), 3);
    }

    static void shippedNumber() {
        c.about("Promise 24", "Returns the number.");
        ColdStores x = Checks.loaded(sorts(1));
        for (int i = 0; i < 40; i++) {
            x.arrive(0);
            x.ship(i);
        }
        c.same("all 40", x.shippedCount(), 40);
        x.undo();
        c.same("39", x.shippedCount(), 39);
    }

    static void discardedNumber() {
        c.about("Promise 25", "Returns the number.");
        ColdStores x = Checks.loaded(sorts(1) + ";pallet a;order a 1 9");
        c.same("none", x.discardedCount(), 0);
        x.serve(0);
        c.same("not by serve", x.discardedCount(), 0);
        for (int i = 1; i < 40; i++) {
            x.arrive(0);
            x.discard(i);
        }
        c.same("all but one", x.discardedCount(), 39);
        x.undo();
        c.same("38", x.discardedCount(), 38);
    }

    // ---- promises 26 to 29

    static void lowestOfGoods() {
        c.about("Promise 26", "Returns the temperature in degrees.");
        ColdStores x = Checks.loaded("goods a -30 20 1 0 0;goods b 20 20 1 0 0;goods d 0 0 1 0 0");
        c.same("the coldest", x.lowestTemperature(0), -30);
        c.same("the warmest", x.lowestTemperature(1), 20);
        c.same("0", x.lowestTemperature(2), 0);
    }

    static void lowestOfNoGoods() {
        c.about("Promise 26", NO_GOODS);
        goodsNumbers("lowestTemperature", (x, goods) -> x.lowestTemperature(goods));
    }

    static void highestOfGoods() {
        c.about("Promise 27", "Returns the temperature in degrees.");
        ColdStores x = Checks.loaded("goods a -30 20 1 0 0;goods b -30 -30 1 0 0;goods d 0 0 1 0 0");
        c.same("the warmest", x.highestTemperature(0), 20);
        c.same("the coldest", x.highestTemperature(1), -30);
        c.same("0", x.highestTemperature(2), 0);
    }

    static void highestOfNoGoods() {
        c.about("Promise 27", NO_GOODS);
        goodsNumbers("highestTemperature", (x, goods) -> x.highestTemperature(goods));
    }

    static void lifeOfGoods() {
        c.about("Promise 28", "Returns the number of days.");
        ColdStores x = Checks.loaded("goods a 0 0 1 0 0;goods b 0 0 60 0 0");
        c.same("the shortest", x.shelfLife(0), 1);
        c.same("the longest", x.shelfLife(1), 60);
    }

    static void lifeOfNoGoods() {
        c.about("Promise 28", NO_GOODS);
        goodsNumbers("shelfLife", (x, goods) -> x.shelfLife(goods));
    }

    static void taintingGoods() {
        c.about("Promise 29", "Returns true if so.");
        ColdStores x = Checks.loaded("goods a 0 0 1 5 5;goods b 0 0 1 6 4;goods d 0 0 1 5 6");
        c.no("a itself", x.taints(0, 0));
        c.yes("5 and 4", x.taints(0, 1));
        c.no("5 and 6", x.taints(0, 2));
        c.yes("6 and 5", x.taints(1, 0));
        c.no("b itself, 6 and 4", x.taints(1, 1));
        c.no("6 and 6", x.taints(1, 2));
        c.no("5 and 5", x.taints(2, 0));
        c.yes("5 and 4", x.taints(2, 1));
    }

    static void taintsOfNoGoods() {
        c.about("Promise 29", NO_GOODS);
        goodsNumbers("taints, first", (x, goods) -> x.taints(goods, 0) ? 1 : 0);
        goodsNumbers("taints, second", (x, goods) -> x.taints(0, goods) ? 1 : 0);
        goodsNumbers("taints, both", (x, goods) -> x.taints(goods, goods) ? 1 : 0);
    }

    // ---- promises 30 and 31

    static void zonesWithoutGoods() {
        c.about("Promise 30", "Returns the number; 0 without goods.");
        c.same("a new object", new ColdStores().zonesNeeded(), 0);
        c.same("a text without goods", Checks.loaded("quay 1").zonesNeeded(), 0);
        c.same("one sort", Checks.loaded("goods a -30 20 1 0 0").zonesNeeded(), 1);
        c.same("six sorts apart", Checks.loaded(apart()).zonesNeeded(), 6);
        c.same("six sorts alike", Checks.loaded("goods a 4 4 1 0 0;goods b 4 4 1 0 0;goods d 4 4 1 0 0;"
                + "goods e 4 4 1 0 0;goods f 4 4 1 0 0;goods g 4 4 1 0 0").zonesNeeded(), 1);
    }

    private static String apart() {
        return "goods a 20 20 1 0 0;goods b -30 -30 1 0 0;goods d 19 19 1 0 0;goods e -29 -29 1 0 0;goods f 0 0 1 0 0;"
                + "goods g -1 -1 1 0 0";
    }

    static void zonesThatTouch() {
        c.about("Promise 30", "Returns the smallest number of temperatures, in whole degrees, such that for each sort"
                + " of goods one of them is not below its lowest and not above its highest temperature.");
        c.same("4 is in both", Checks.loaded("goods a 0 4 1 0 0;goods b 4 8 1 0 0").zonesNeeded(), 1);
        c.same("none is in both", Checks.loaded("goods a 0 4 1 0 0;goods b 5 8 1 0 0").zonesNeeded(), 2);
    }

    static void firstZone() {
        c.about("Promise 31", "The first temperature is the least of the highest temperatures of all sorts of goods.");
        c.same("of one sort", Checks.loaded("goods a -30 20 1 0 0").zoneTemperature(0), 20);
        c.same("of two sorts", Checks.loaded("goods a -30 20 1 0 0;goods b -30 -29 1 0 0").zoneTemperature(0), -29);
    }

    static void furtherZones() {
        c.about("Promise 31", "Each further one is the least of the highest temperatures of those goods whose lowest"
                + " temperature is above the temperature found before.");
        ColdStores x = Checks.loaded("goods a 0 4 1 0 0;goods b 4 5 1 0 0;goods d 5 9 1 0 0;goods e 5 8 1 0 0;"
                + "goods f 9 20 1 0 0;goods g 8 12 1 0 0");
        c.same("the first", x.zoneTemperature(0), 4);
        c.same("b's lowest is not above 4", x.zoneTemperature(1), 8);
        c.same("g's lowest is not above 8", x.zoneTemperature(2), 20);
        c.same("zonesNeeded", x.zonesNeeded(), 3);
    }

    static void numberOfZones() {
        c.about("Promise 31", "There are zonesNeeded() of them.");
        for (int sorts = 0; sorts <= 6; sorts++) {
            ColdStores x = Checks.loaded(sorts(sorts));
            c.numbers("zoneTemperature", x.zonesNeeded(), x::zoneTemperature);
        }
    }

    static void zoneIndexes() {
        c.about("Promise 31", "- index: 0 to zonesNeeded() - 1");
        ColdStores x = Checks.loaded(apart());
        c.numbers("zoneTemperature of 6", 6, x::zoneTemperature);
    }

    static void zonesInIncreasingOrder() {
        c.about("Promise 31", "Returns the temperature in degrees.");
        ColdStores x = Checks.loaded(apart());
        int[] due = {-30, -29, -1, 0, 19, 20};
        for (int i = 0; i < 6; i++) {
            c.same("zoneTemperature " + i, x.zoneTemperature(i), due[i]);
        }
    }

    static void noSuchZone() {
        c.about("Promise 31", "Throws IndexOutOfBoundsException if index is out of range");
        ColdStores none = new ColdStores();
        c.numbers("without goods", 0, none::zoneTemperature);
        ColdStores one = Checks.loaded("goods a 0 4 1 0 0;goods b 4 8 1 0 0");
        c.numbers("of one zone", 1, one::zoneTemperature);
        c.noIndex("of one zone", one, () -> one.zoneTemperature(1));
        ColdStores two = Checks.loaded("goods a 0 4 1 0 0;goods b 5 8 1 0 0");
        c.numbers("of two zones", 2, two::zoneTemperature);
    }

    // ---- promises 32 to 38

    static void goodsOfPallets() {
        c.about("Promise 32", "Returns the number of the goods.");
        ColdStores x = Checks.loaded(sorts(6) + ";pallet f;pallet a");
        c.same("the last sort", x.goodsOf(0), 5);
        c.same("the first sort", x.goodsOf(1), 0);
        x.discard(0);
        c.same("when it is gone", x.goodsOf(0), 5);
    }

    static void goodsOfNoPallet() {
        c.about("Promise 32", NO_PALLET);
        palletNumbers("goodsOf", (x, pallet) -> x.goodsOf(pallet));
    }

    static void statesOfPallets() {
        c.about("Promise 33", "Returns 0 waiting, 1 stored, 2 shipped, 3 discarded.");
        ColdStores x = oneInEachState();
        for (int i = 0; i < 4; i++) {
            c.same("stateOf " + i, x.stateOf(i), i);
        }
        x.retrieve(1);
        c.same("retrieved", x.stateOf(1), 0);
    }

    static void stateOfNoPallet() {
        c.about("Promise 33", NO_PALLET);
        palletNumbers("stateOf", (x, pallet) -> x.stateOf(pallet));
    }

    static void chambersOfPallets() {
        c.about("Promise 34", "Returns the number of the chamber; NONE if the pallet is not stored.");
        ColdStores x = Checks.loaded("chamber u 1 1 0;door u 0 0;chamber v 1 1 0;chamber w 1 1 0;door w 0 0;" + sorts(1)
                + times(4, ";pallet a") + ";order a 1 9");
        c.same("waiting", x.chamberOf(0), -1);
        x.store(0, 0, 0, 0);
        x.store(1, 2, 0, 0);
        x.ship(2);
        x.discard(3);
        c.same("the first chamber", x.chamberOf(0), 0);
        c.same("the last chamber", x.chamberOf(1), 2);
        c.same("shipped", x.chamberOf(2), -1);
        c.same("discarded", x.chamberOf(3), -1);
        x.serve(0);
        c.same("shipped out of a chamber", x.chamberOf(0), -1);
        x.retrieve(1);
        c.same("retrieved", x.chamberOf(1), -1);
    }

    static void chamberOfNoPallet() {
        c.about("Promise 34", NO_PALLET);
        palletNumbers("chamberOf", (x, pallet) -> x.chamberOf(pallet));
    }

    static void cellsOfPallets() {
        c.about("Promise 35", "Returns 10 * row + column; NONE if the pallet is not stored.");
        ColdStores x = oneInEachState();
        c.same("waiting", x.cellOf(0), -1);
        c.same("the last cell", x.cellOf(1), 53);
        c.same("shipped", x.cellOf(2), -1);
        c.same("discarded", x.cellOf(3), -1);
        x.store(0, 0, 0, 0);
        c.same("the first cell", x.cellOf(0), 0);
        x.shift(0, 0, 3);
        c.same("the end of the first row", x.cellOf(0), 3);
        x.shift(0, 1, 0);
        c.same("the begin of the next row", x.cellOf(0), 10);
        x.retrieve(0);
        c.same("retrieved", x.cellOf(0), -1);
        ColdStores y = Checks.loaded("chamber u 6 1 0;door u 5 0;" + sorts(1) + ";pallet a");
        y.store(0, 0, 5, 0);
        c.same("of one column", y.cellOf(0), 50);
    }

    static void cellOfNoPallet() {
        c.about("Promise 35", NO_PALLET);
        palletNumbers("cellOf", (x, pallet) -> x.cellOf(pallet));
    }

    static void arrivalDays() {
        c.about("Promise 36", "Returns the day.");
        ColdStores x = Checks.loaded(CHAMBER + sorts(1) + ";pallet a");
        c.same("of the text", x.arrivalDay(0), 0);
        for (int i = 0; i < 6; i++) {
            x.advance(60);
        }
        x.advance(5);
        x.arrive(0);
        c.same("the last day", x.arrivalDay(1), 365);
        x.store(0, 0, 0, 0);
        x.retrieve(0);
        c.same("a retrieved one did not arrive again", x.arrivalDay(0), 0);
        x.discard(0);
        c.same("a discarded one", x.arrivalDay(0), 0);
    }

    static void arrivalDayOfNoPallet() {
        c.about("Promise 36", NO_PALLET);
        palletNumbers("arrivalDay", (x, pallet) -> x.arrivalDay(pallet));
    }

    static void heatOfPallets() {
        c.about("Promise 37", "Returns the heat, 0 or more.");
        ColdStores x = Checks.loaded("goods a -30 -30 60 0 0;goods b -30 20 60 0 0;pallet a;pallet b;quay 40");
        c.same("at first", x.heat(0), 0);
        x.advance(1);
        c.same("40 and -30", x.heat(0), 700);
        for (int i = 0; i < 6; i++) {
            x.advance(60);
        }
        x.advance(4);
        c.same("a year of it", x.heat(0), 365 * 700);
        c.same("a year of 40 and 20", x.heat(1), 365 * 200);
    }

    static void heatOfNoPallet() {
        c.about("Promise 37", NO_PALLET);
        palletNumbers("heat", (x, pallet) -> x.heat(pallet));
    }

    static void taintOfPallets() {
        c.about("Promise 38", "Returns the taint, 0 or more.");
        ColdStores x = Checks.loaded("goods a 0 20 60 9 9;goods b 0 20 60 0 0;pallet a;pallet b");
        c.same("at first", x.taint(1), 0);
        for (int i = 0; i < 6; i++) {
            x.advance(60);
        }
        x.advance(5);
        c.same("a year of 9", x.taint(1), 365 * 9);
        c.same("a year of nothing", x.taint(0), 0);
    }

    static void taintOfNoPallet() {
        c.about("Promise 38", NO_PALLET);
        palletNumbers("taint", (x, pallet) -> x.taint(pallet));
    }

    // ---- promises 39 to 42: spoiling

    static void spoiledPallets() {
        c.about("Promise 39", "Returns true if so.");
        ColdStores x = Checks.loaded("goods a 0 20 1 0 9;goods b 0 11 60 0 9;goods d 0 20 60 9 9;goods e 0 20 60 0 5;"
                + "pallet a;pallet b;pallet d;pallet e;limits 19 7");
        x.advance(1);
        c.no("a: 1 day of 1", x.isSpoiled(0));
        c.no("b: a heat of 10", x.isSpoiled(1));
        c.no("e: a taint of 4", x.isSpoiled(3));
        x.advance(1);
        c.yes("a: 2 days of 1", x.isSpoiled(0));
        c.yes("b: a heat of 20", x.isSpoiled(1));
        c.no("d", x.isSpoiled(2));
        c.yes("e: a taint of 8", x.isSpoiled(3));
    }

    static void spoiledWhenItLeft() {
        c.about("Promise 39", "for a pallet that was shipped or discarded, whether it was when that happened.");
        ColdStores x = Checks.loaded("goods a 0 20 1 0 0;pallet a;pallet a;pallet a");
        x.advance(1);
        x.ship(0);
        x.discard(1);
        x.advance(1);
        x.discard(2);
        x.advance(60);
        c.no("shipped in time", x.isSpoiled(0));
        c.no("discarded in time", x.isSpoiled(1));
        c.yes("discarded too late", x.isSpoiled(2));
    }

    static void spoiledOfNoPallet() {
        c.about("Promise 39", NO_PALLET);
        palletNumbers("isSpoiled", (x, pallet) -> x.isSpoiled(pallet) ? 1 : 0);
    }

    static void leastAndMostDaysLeft() {
        c.about("Promise 40", "Returns the number of nights, at most 100; 0 if the pallet is spoiled now.");
        ColdStores x = Checks.loaded("goods a 0 20 1 0 0;goods b 0 20 60 0 0;pallet a;pallet b");
        c.same("a shelf life of 1", x.daysLeft(0), 2);
        c.same("a shelf life of 60", x.daysLeft(1), 61);
        x.advance(1);
        c.same("the last day", x.daysLeft(0), 1);
        x.advance(1);
        c.same("spoiled now", x.daysLeft(0), 0);
        x.advance(1);
        c.same("spoiled before", x.daysLeft(0), 0);
    }

    static void daysLeftBeyondTheYear() {
        c.about("Promise 40", "(the current day may exceed 365 for this)");
        ColdStores x = Checks.loaded("goods a 0 20 60 0 0");
        for (int i = 0; i < 6; i++) {
            x.advance(60);
        }
        x.advance(5);
        x.arrive(0);
        c.same("from day 365 on", x.daysLeft(0), 61);
        c.same("the day stays", x.currentDay(), 365);
    }

    static void daysLeftIfNothingHappens() {
        c.about("Promise 40", "if nothing but nights happens");
        ColdStores x = Checks.loaded("chamber u 1 1 4;door u 0 0;goods a 0 4 60 0 0;pallet a;limits 2 10");
        x.store(0, 0, 0, 0);
        c.same("today's opening counts: 2 and 1", x.daysLeft(0), 2);
        x.advance(1);
        c.same("asking opened no door", x.daysLeft(0), 1);
        c.same("nothing is changed by asking", x.undoCount(), 2);
        c.same("heat", x.heat(0), 2);
    }

    static void daysLeftOfNoPallet() {
        c.about("Promise 40", NO_PALLET + " (checked first)");
        ColdStores none = new ColdStores();
        c.numbers("daysLeft", 0, none::daysLeft);
        ColdStores x = Checks.loaded("goods a 0 20 60 0 0;pallet a;pallet a");
        c.numbers("daysLeft", 2, x::daysLeft);
        c.noIndex("daysLeft", x, () -> x.daysLeft(2));
    }

    static void daysLeftOfWhatIsGone() {
        c.about("Promise 40", "Throws IllegalStateException if the pallet was shipped or discarded (checked second)");
        ColdStores x = oneInEachState();
        c.badState("shipped", x, () -> x.daysLeft(2));
        c.badState("discarded", x, () -> x.daysLeft(3));
        c.same("waiting", x.daysLeft(0), 2);
        x.advance(60);
        c.badState("shipped", x, () -> x.daysLeft(2));
        c.badState("discarded", x, () -> x.daysLeft(3));
    }

    /** No shelf life is that long: what stays longest is spoiled after 61 nights. */
    static void daysLeftOfWhatStaysLongest() {
        c.about("Promise 40", "Throws NoSuchElementException if the pallet is not spoiled after 100 nights");
        ColdStores x = Checks.loaded(CHAMBER + "goods a -30 20 60 0 9;pallet a;pallet a;limits 999 999");
        x.store(0, 0, 0, 0);
        c.same("stored", x.daysLeft(0), 61);
        c.same("waiting", x.daysLeft(1), 61);
    }

    static void spoiledCounts() {
        c.about("Promise 41", "Counts the waiting and stored pallets that are spoiled.");
        ColdStores x = Checks.loaded(CHAMBER + "goods a 0 20 1 0 0;pallet a;pallet a;pallet a");
        c.same("none", x.spoiledCount(), 0);
        x.store(1, 0, 0, 0);
        x.advance(1);
        c.same("on the last day", x.spoiledCount(), 0);
        x.advance(1);
        c.same("all", x.spoiledCount(), 3);
        x.discard(0);
        c.same("without the discarded one", x.spoiledCount(), 2);
    }

    static void spoiledNumber() {
        c.about("Promise 41", "Returns the number.");
        c.same("a new object", new ColdStores().spoiledCount(), 0);
        ColdStores x = withForty();
        x.advance(10);
        c.same("all that wait", x.spoiledCount(), 8);
    }

    static void nightsAhead() {
        c.about("Promise 42", "- nights: 1 to 100");
        ColdStores x = Checks.loaded("goods a 0 20 1 0 0;goods b 0 20 60 0 0;pallet a;pallet b;pallet b");
        c.same("1", x.spoilsWithin(1), 0);
        c.same("2", x.spoilsWithin(2), 1);
        c.same("60", x.spoilsWithin(60), 1);
        c.same("61", x.spoilsWithin(61), 3);
        c.same("100", x.spoilsWithin(100), 3);
    }

    static void spoilsWithinNights() {
        c.about("Promise 42", "Returns the number of pallets.");
        c.same("a new object", new ColdStores().spoilsWithin(100), 0);
        ColdStores x = Checks.loaded(CHAMBER + "goods a 0 20 1 0 0" + times(5, ";pallet a"));
        x.store(0, 0, 0, 0);
        x.ship(1);
        x.discard(2);
        c.same("the waiting and the stored ones", x.spoilsWithin(2), 3);
        x.advance(2);
        c.same("not those that are spoiled now", x.spoilsWithin(100), 0);
    }

    static void spoilsWithinBeyondTheYear() {
        c.about("Promise 42", "(the current day may exceed 365 for this)");
        ColdStores x = Checks.loaded("goods a 0 20 60 0 0");
        for (int i = 0; i < 6; i++) {
            x.advance(60);
        }
        x.advance(5);
        x.arrive(0);
        c.same("60", x.spoilsWithin(60), 0);
        c.same("61", x.spoilsWithin(61), 1);
        c.same("the day stays", x.currentDay(), 365);
    }

    static void spoilsWithinNoSuchNights() {
        c.about("Promise 42", "Throws IllegalArgumentException if nights is out of range");
        ColdStores x = Checks.loaded("goods a 0 20 60 0 0;pallet a");
        for (int wrong : new int[] {LEAST, -1, 0, 101, 365, MOST}) {
            c.badArgument("spoilsWithin(" + wrong + ")", x, () -> x.spoilsWithin(wrong));
        }
        c.same("100 at the end of the year", x.spoilsWithin(100), 1);
    }
}
