/** Promises 16 to 25. */
public final class ContentsTest {
    private static final Checks c = new Checks();
    private static final String TEXT = "chamber a 2 3 2;door a 0 0;chamber k 1 2 10;goods f 0 4 10 5 2;"
            + "goods m 0 4 20 1 3;goods b -30 20 60 0 9;pallet m;pallet b;pallet f;order m 1 5;order b 9 365;"
            + "order f 2 0;quay 3";

    public static void main(String[] args) {
        counts();
        days();
        waiting();
        orders();
        shippedAndDiscarded();
        c.end("ContentsTest");
    }

    /** Promises 16 to 19. */
    private static void counts() {
        ColdStores x = Checks.loaded(TEXT);
        c.same("chamberCount", x.chamberCount(), 2);
        c.same("goodsCount", x.goodsCount(), 3);
        c.same("palletCount", x.palletCount(), 3);
        c.same("orderCount", x.orderCount(), 3);
        x.arrive(0);
        c.same("palletCount", x.palletCount(), 4);
        x.ship(0);
        x.discard(1);
        x.store(2, 0, 0, 0);
        c.same("palletCount", x.palletCount(), 4);
        x.serve(2);
        c.same("orderCount", x.orderCount(), 3);
        c.same("palletCount", x.palletCount(), 4);

        ColdStores y = Checks.loaded("chamber a 1 1 0;chamber b 1 1 0;chamber c 1 1 0;goods d 0 0 1 0 0;"
                + "goods e 0 0 1 0 0;goods f 0 0 1 0 0;goods g 0 0 1 0 0;goods h 0 0 1 0 0;goods i 0 0 1 0 0;"
                + "order i 1 1;order i 1 1;order i 1 1;order i 1 1;order i 1 1;order i 1 1;order i 1 1;"
                + "order i 1 1;order i 1 1;order i 1 1");
        c.same("chamberCount", y.chamberCount(), 3);
        c.same("goodsCount", y.goodsCount(), 6);
        c.same("palletCount", y.palletCount(), 0);
        c.same("orderCount", y.orderCount(), 10);
    }

    /** Promise 20. */
    private static void days() {
        ColdStores x = Checks.loaded(TEXT);
        c.same("currentDay", x.currentDay(), 0);
        x.advance(1);
        c.same("currentDay", x.currentDay(), 1);
        x.advance(60);
        c.same("currentDay", x.currentDay(), 61);
        x.undo();
        c.same("currentDay", x.currentDay(), 1);
    }

    /** Promises 21 and 22. */
    private static void waiting() {
        ColdStores x = Checks.loaded(TEXT);
        c.same("waitingCount", x.waitingCount(), 3);
        c.same("waitingPallet", x.waitingPallet(0), 0);
        c.same("waitingPallet", x.waitingPallet(1), 1);
        c.same("waitingPallet", x.waitingPallet(2), 2);
        c.noIndex("waitingPallet(3)", () -> x.waitingPallet(3));
        c.noIndex("waitingPallet(-1)", () -> x.waitingPallet(-1));
        c.noIndex("waitingPallet of the least int", () -> x.waitingPallet(Integer.MIN_VALUE));
        x.store(0, 0, 0, 1);
        c.same("waitingCount", x.waitingCount(), 2);
        c.same("waitingPallet", x.waitingPallet(0), 1);
        c.noIndex("waitingPallet(2)", () -> x.waitingPallet(2));
        x.arrive(2);
        x.retrieve(0);
        c.same("waitingCount", x.waitingCount(), 4);
        c.same("waitingPallet", x.waitingPallet(2), 3);
        c.same("the last one that came", x.waitingPallet(3), 0);
        x.ship(2);
        c.same("waitingPallet", x.waitingPallet(1), 3);
        x.discard(1);
        c.same("waitingPallet", x.waitingPallet(0), 3);
        c.same("waitingCount", x.waitingCount(), 2);
    }

    /** Promise 23. */
    private static void orders() {
        ColdStores x = Checks.loaded(TEXT);
        int[][] due = {{1, 1, 5, 0}, {2, 9, 365, 0}, {0, 2, 0, 0}};
        for (int order = 0; order < 3; order++) {
            for (int what = 0; what < 4; what++) {
                c.same("order(" + order + ", " + what + ")", x.order(order, what), due[order][what]);
            }
        }
        c.noIndex("order(3, 0)", () -> x.order(3, 0));
        c.noIndex("order(-1, 0)", () -> x.order(-1, 0));
        c.noIndex("the order is checked first", () -> x.order(3, 4));
        c.badArgument("order(0, 4)", () -> x.order(0, 4));
        c.badArgument("order(0, -1)", () -> x.order(0, -1));
        x.serve(0);
        c.same("served", x.order(0, 3), 1);
        c.same("not served", x.order(1, 3), 0);
        c.same("its goods", x.order(0, 0), 1);
    }

    /** Promises 24 and 25. */
    private static void shippedAndDiscarded() {
        ColdStores x = Checks.loaded(TEXT);
        c.same("shippedCount", x.shippedCount(), 0);
        c.same("discardedCount", x.discardedCount(), 0);
        x.serve(0);
        c.same("by serve", x.shippedCount(), 1);
        x.ship(1);
        c.same("by ship", x.shippedCount(), 2);
        c.same("discardedCount", x.discardedCount(), 0);
        x.discard(2);
        c.same("discardedCount", x.discardedCount(), 1);
        c.same("shippedCount", x.shippedCount(), 2);
        x.undo();
        x.undo();
        c.same("discardedCount", x.discardedCount(), 0);
        c.same("shippedCount", x.shippedCount(), 1);
    }
}
