/** Promises 26 to 31. */
public final class GoodsTest {
    private static final Checks c = new Checks();

    public static void main(String[] args) {
        properties();
        taints();
        zones();
        c.end("GoodsTest");
    }

    /** Promises 26 to 28. */
    private static void properties() {
        ColdStores x = Checks.loaded("goods f -30 -4 1 5 2;goods m 0 20 60 1 3;goods b 7 7 20 0 9");
        int[][] due = {{-30, -4, 1}, {0, 20, 60}, {7, 7, 20}};
        for (int i = 0; i < 3; i++) {
            c.same("lowestTemperature " + i, x.lowestTemperature(i), due[i][0]);
            c.same("highestTemperature " + i, x.highestTemperature(i), due[i][1]);
            c.same("shelfLife " + i, x.shelfLife(i), due[i][2]);
        }
        for (int wrong : new int[] {-1, 3, 6, Integer.MIN_VALUE, Integer.MAX_VALUE}) {
            c.noIndex("lowestTemperature " + wrong, () -> x.lowestTemperature(wrong));
            c.noIndex("highestTemperature " + wrong, () -> x.highestTemperature(wrong));
            c.noIndex("shelfLife " + wrong, () -> x.shelfLife(wrong));
        }
    }

    /** Promise 29. */
    private static void taints() {
        ColdStores x = Checks.loaded("goods f 0 4 10 5 2;goods m 0 4 20 3 5;goods b 0 4 60 9 0");
        boolean[][] due = {{false, false, true}, {true, false, true}, {true, true, false}};
        for (int i = 0; i < 3; i++) {
            for (int j = 0; j < 3; j++) {
                c.same("taints(" + i + ", " + j + ")", x.taints(i, j) ? 1 : 0, due[i][j] ? 1 : 0);
            }
        }
        c.noIndex("taints(3, 0)", () -> x.taints(3, 0) ? 1 : 0);
        c.noIndex("taints(0, 3)", () -> x.taints(0, 3) ? 1 : 0);
        c.noIndex("taints(-1, 0)", () -> x.taints(-1, 0) ? 1 : 0);
        c.noIndex("taints(0, -1)", () -> x.taints(0, -1) ? 1 : 0);
    }

    /** Promises 30 and 31. */
    private static void zones() {
        ColdStores none = new ColdStores();
        c.same("without goods", none.zonesNeeded(), 0);
        c.noIndex("zoneTemperature(0)", () -> none.zoneTemperature(0));
        same("goods a -30 -30 1 0 0", -30);
        same("goods a 20 20 1 0 0", 20);
        same("goods a 0 4 1 0 0;goods b 4 8 1 0 0", 4);
        same("goods a 0 4 1 0 0;goods b 5 8 1 0 0", 4, 8);
        same("goods a 5 20 1 0 0;goods b -30 4 1 0 0", 4, 20);
        same("goods a -25 -18 1 0 0;goods b 0 4 1 0 0;goods c -20 0 1 0 0;goods d 2 9 1 0 0", -18, 4);
        same("goods a -30 20 1 0 0;goods b -30 20 1 0 0", 20);
        same("goods a 1 2 1 0 0;goods b 3 4 1 0 0;goods c 5 6 1 0 0;goods d 7 8 1 0 0;goods e 9 10 1 0 0;"
                + "goods f -30 20 1 0 0", 2, 4, 6, 8, 10);
        same("goods a 1 1 1 0 0;goods b 2 2 1 0 0;goods c 3 3 1 0 0;goods d 4 4 1 0 0;goods e 5 5 1 0 0;"
                + "goods f 6 6 1 0 0", 1, 2, 3, 4, 5, 6);
        ColdStores x = Checks.loaded("goods a 0 1 1 0 0;goods b 0 1 1 0 0;goods c 5 9 1 0 0");
        Checks.feed(x, "goods a 0 1 1 0 0;goods b 0 1 1 0 0");
        x.load();
        c.same("goods of an earlier text do not count", x.zonesNeeded(), 1);
    }

    private static void same(String text, int... due) {
        ColdStores x = Checks.loaded(text);
        c.same("zonesNeeded of " + text, x.zonesNeeded(), due.length);
        for (int i = 0; i < due.length; i++) {
            c.same("zoneTemperature(" + i + ") of " + text, x.zoneTemperature(i), due[i]);
        }
        for (int wrong : new int[] {-1, due.length, Integer.MIN_VALUE, Integer.MAX_VALUE}) {
            c.noIndex("zoneTemperature(" + wrong + ") of " + text, () -> x.zoneTemperature(wrong));
        }
    }
}
