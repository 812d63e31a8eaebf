/** Promises 32 to 42. */
public final class PalletsTest {
    private static final Checks c = new Checks();
    private static final String TEXT = "chamber a 2 3 2;door a 0 0;chamber k 6 4 10;door k 5 3;"
            + "goods f 0 4 10 5 2;goods m 0 4 20 1 3;goods b -30 20 60 0 9;pallet m;pallet b;pallet f";

    public static void main(String[] args) {
        properties();
        wrongNumbers();
        spoiledByHeat();
        spoiledByTaint();
        spoiledByAge();
        spoiledWhenItEnded();
        daysLeft();
        daysLeftBeyondTheYear();
        spoilsWithin();
        c.end("PalletsTest");
    }

    /** Promises 32 to 38. */
    private static void properties() {
        ColdStores x = Checks.loaded(TEXT);
        x.advance(1);
        x.arrive(2);
        c.same("goodsOf", x.goodsOf(0), 1);
        c.same("goodsOf", x.goodsOf(1), 2);
        c.same("goodsOf", x.goodsOf(2), 0);
        c.same("goodsOf", x.goodsOf(3), 2);
        c.same("arrivalDay", x.arrivalDay(2), 0);
        c.same("arrivalDay", x.arrivalDay(3), 1);
        c.same("chamberOf", x.chamberOf(1), -1);
        c.same("cellOf", x.cellOf(1), -1);
        x.store(1, 1, 5, 2);
        c.same("chamberOf", x.chamberOf(1), 1);
        c.same("cellOf", x.cellOf(1), 52);
        x.store(3, 1, 0, 0);
        c.same("cellOf", x.cellOf(3), 0);
        x.discard(0);
        x.shift(1, 3, 3);
        c.same("cellOf", x.cellOf(1), 33);
        x.retrieve(3);
        x.ship(3);
        int[] states = {3, 1, 0, 2};
        for (int i = 0; i < 4; i++) {
            c.same("stateOf " + i, x.stateOf(i), states[i]);
        }
        c.same("chamberOf", x.chamberOf(0), -1);
        c.same("cellOf", x.cellOf(0), -1);
        c.same("chamberOf", x.chamberOf(3), -1);
        c.same("cellOf", x.cellOf(3), -1);
        c.same("heat", x.heat(0), 80);
        c.same("heat", x.heat(1), 0);
        c.same("taint", x.taint(0), 2);
        c.same("taint", x.taint(2), 0);
        x.advance(3);
        c.same("heat of a discarded one", x.heat(0), 80);
        c.same("taint of a discarded one", x.taint(0), 2);
        c.same("heat of a waiting one", x.heat(2), 320);
        c.same("arrivalDay of a discarded one", x.arrivalDay(0), 0);
        c.same("goodsOf a shipped one", x.goodsOf(3), 2);
    }

    private static void wrongNumbers() {
        ColdStores x = Checks.loaded(TEXT);
        for (int wrong : new int[] {-1, 3, 40, Integer.MIN_VALUE, Integer.MAX_VALUE}) {
            c.noIndex("goodsOf " + wrong, () -> x.goodsOf(wrong));
            c.noIndex("stateOf " + wrong, () -> x.stateOf(wrong));
            c.noIndex("chamberOf " + wrong, () -> x.chamberOf(wrong));
            c.noIndex("cellOf " + wrong, () -> x.cellOf(wrong));
            c.noIndex("arrivalDay " + wrong, () -> x.arrivalDay(wrong));
            c.noIndex("heat " + wrong, () -> x.heat(wrong));
            c.noIndex("taint " + wrong, () -> x.taint(wrong));
            c.noIndex("isSpoiled " + wrong, () -> x.isSpoiled(wrong) ? 1 : 0);
            c.noIndex("daysLeft " + wrong, () -> x.daysLeft(wrong));
        }
    }

    /** Promises 39 and 41, from here on. */
    private static void spoiledByHeat() {
        ColdStores x = Checks.loaded("goods f 0 4 60 0 0;pallet f;limits 16 10;quay 12");
        x.undoCount();
        ColdStores y = Checks.loaded("goods f 0 4 60 0 0;pallet f;limits 160 10");
        y.advance(2);
        c.same("heat", y.heat(0), 160);
        c.no("not above the limit", y.isSpoiled(0));
        c.same("spoiledCount", y.spoiledCount(), 0);
        y.advance(1);
        c.yes("above the limit", y.isSpoiled(0));
        c.same("spoiledCount", y.spoiledCount(), 1);
        c.no("at first", x.isSpoiled(0));
        x.advance(1);
        c.yes("above the limit", x.isSpoiled(0));
        ColdStores z = Checks.loaded("goods f 0 4 60 0 0;pallet f;limits 0 0;quay 4");
        z.advance(60);
        c.no("not warmer than the highest", z.isSpoiled(0));
    }

    private static void spoiledByTaint() {
        ColdStores x = Checks.loaded("goods p 0 20 60 5 9;goods q 0 20 60 0 0;pallet p;pallet q");
        x.advance(2);
        c.same("taint", x.taint(1), 10);
        c.no("not above the limit of 10", x.isSpoiled(1));
        x.advance(1);
        c.yes("above it", x.isSpoiled(1));
        c.same("spoiledCount", x.spoiledCount(), 1);
        c.no("the other one", x.isSpoiled(0));
    }

    private static void spoiledByAge() {
        ColdStores x = Checks.loaded("chamber a 1 1 3;door a 0 0;goods p 0 20 3 0 0;pallet p;pallet p");
        x.store(0, 0, 0, 0);
        x.advance(1);
        x.arrive(0);
        x.advance(2);
        c.no("on its last day", x.isSpoiled(0));
        c.same("spoiledCount", x.spoiledCount(), 0);
        x.advance(1);
        c.yes("a day later", x.isSpoiled(0));
        c.yes("the waiting one too", x.isSpoiled(1));
        c.no("not the later one", x.isSpoiled(2));
        c.same("spoiledCount", x.spoiledCount(), 2);
        x.discard(1);
        c.same("without the discarded one", x.spoiledCount(), 1);
        x.retrieve(0);
        c.same("waiting again", x.spoiledCount(), 1);
    }

    private static void spoiledWhenItEnded() {
        ColdStores x = Checks.loaded("chamber a 1 1 3;door a 0 0;goods p 0 20 3 0 0;pallet p;pallet p;"
                + "pallet p;pallet p;order p 1 9");
        x.ship(0);
        x.advance(3);
        x.discard(1);
        x.store(2, 0, 0, 0);
        x.serve(0);
        x.advance(1);
        x.discard(3);
        x.advance(20);
        c.no("shipped on day 0", x.isSpoiled(0));
        c.no("discarded on day 3", x.isSpoiled(1));
        c.no("served on day 3", x.isSpoiled(2));
        c.yes("discarded on day 4", x.isSpoiled(3));
        c.same("spoiledCount", x.spoiledCount(), 0);
    }

    /** Promise 40. */
    private static void daysLeft() {
        ColdStores x = Checks.loaded("chamber a 1 3 1;door a 0 0;goods f 0 4 60 8 2;goods m 0 1 20 1 3;"
                + "pallet m;pallet f;pallet m;limits 170 10");
        c.same("by taint", x.daysLeft(0), 2);
        c.same("by heat", x.daysLeft(1), 3);
        x.store(0, 0, 0, 2);
        c.same("in a chamber whose door was opened", x.daysLeft(0), 21);
        x.advance(1);
        c.same("a day less", x.daysLeft(0), 20);
        c.same("a day less", x.daysLeft(1), 2);
        c.same("asking changes nothing", x.currentDay(), 1);
        c.same("asking changes nothing", x.temperature(0), 12);
        x.advance(1);
        c.same("two days less", x.daysLeft(1), 1);
        c.same("spoiled now", x.daysLeft(2), 0);
        x.advance(1);
        c.same("spoiled now", x.daysLeft(1), 0);
        x.discard(1);
        c.badState("discarded", () -> x.daysLeft(1));
        c.noIndex("no pallet", () -> x.daysLeft(3));
        x.retrieve(0);
        x.ship(0);
        c.badState("shipped", () -> x.daysLeft(0));
        c.same("undoCount", x.undoCount(), 7);

        ColdStores y = Checks.loaded("goods f 0 20 60 0 0;pallet f;goods s 0 20 1 0 0;pallet s");
        c.same("the longest shelf life", y.daysLeft(0), 61);
        c.same("the shortest", y.daysLeft(1), 2);

        ColdStores z = Checks.loaded("chamber a 1 1 0;door a 0 0;goods f 0 0 60 0 0;pallet f;limits 3 0");
        z.store(0, 0, 0, 0);
        c.same("warming 2 and 1 is no more than 3", z.daysLeft(0), 61);
        Checks.feed(z, "chamber a 1 1 0;door a 0 0;goods f 0 0 60 0 0;pallet f;limits 2 0");
        z.load();
        z.store(0, 0, 0, 0);
        c.same("warming 2 and 1 is more than 2", z.daysLeft(0), 2);
    }

    private static void daysLeftBeyondTheYear() {
        ColdStores x = Checks.loaded("goods f 0 20 60 0 0");
        for (int i = 0; i < 6; i++) {
            x.advance(60);
        }
        x.advance(5);
        x.arrive(0);
        c.same("daysLeft on day 365", x.daysLeft(0), 61);
        c.same("spoilsWithin on day 365", x.spoilsWithin(61), 1);
        c.same("spoilsWithin on day 365", x.spoilsWithin(60), 0);
        c.same("currentDay", x.currentDay(), 365);
    }

    /** Promise 42. */
    private static void spoilsWithin() {
        ColdStores x = Checks.loaded("chamber a 1 3 1;door a 0 0;goods f 0 4 9 0 2;goods m 0 20 20 1 3;"
                + "pallet m;pallet f;pallet f;pallet m");
        c.badArgument("spoilsWithin(0)", () -> x.spoilsWithin(0));
        c.badArgument("spoilsWithin(101)", () -> x.spoilsWithin(101));
        c.badArgument("spoilsWithin(-1)", () -> x.spoilsWithin(-1));
        c.badArgument("spoilsWithin of the greatest int", () -> x.spoilsWithin(Integer.MAX_VALUE));
        x.store(1, 0, 0, 2);
        c.same("one night", x.spoilsWithin(1), 0);
        c.same("the waiting f by heat", x.spoilsWithin(2), 1);
        c.same("f", x.spoilsWithin(9), 1);
        c.same("the stored f by age", x.spoilsWithin(10), 2);
        c.same("m", x.spoilsWithin(20), 2);
        c.same("m by age", x.spoilsWithin(21), 4);
        c.same("all", x.spoilsWithin(100), 4);
        x.discard(3);
        c.same("not the discarded one", x.spoilsWithin(100), 3);
        x.advance(2);
        c.same("not the one that is spoiled now", x.spoilsWithin(100), 2);
        c.same("currentDay", x.currentDay(), 2);
        c.same("undoCount", x.undoCount(), 3);
    }
}
