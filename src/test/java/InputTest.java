/** Promises 1 to 5 and the text format of section 7. */
public final class InputTest {
    private static final Checks c = new Checks();

    public static void main(String[] args) {
        newObject();
        append();
        truncate();
        emptyAndShort();
        chamberStatements();
        doorStatements();
        goodsStatements();
        palletAndOrderStatements();
        limitsAndQuayStatements();
        names();
        tokens();
        signs();
        tooMany();
        endsTooEarly();
        load();
        loadOverEverything();
        loadOverWaitingAndStored();
        c.end("InputTest");
    }

    /** Promise 1. */
    private static void newObject() {
        ColdStores x = new ColdStores();
        c.same("chamberCount", x.chamberCount(), 0);
        c.same("goodsCount", x.goodsCount(), 0);
        c.same("palletCount", x.palletCount(), 0);
        c.same("orderCount", x.orderCount(), 0);
        c.same("currentDay", x.currentDay(), 0);
        c.same("waitingCount", x.waitingCount(), 0);
        c.same("shippedCount", x.shippedCount(), 0);
        c.same("discardedCount", x.discardedCount(), 0);
        c.same("spoiledCount", x.spoiledCount(), 0);
        c.same("undoCount", x.undoCount(), 0);
        c.same("textLength", x.textLength(), 0);
        c.same("the length of the buffer", x.append(0, 0, 0, 0, 0), 0);
        c.badArgument("truncate(1)", () -> x.truncate(1));
        c.badState("undo", x::undo);
        c.badState("restore", x::restore);
        c.same("advance in an empty object", x.advance(3), 0);
        c.same("currentDay", x.currentDay(), 3);
        c.same("autoStore in an empty object", x.autoStore(), 0);
        c.same("undoCount", x.undoCount(), 1);
        c.noIndex("arrive(0)", () -> x.arrive(0));
        c.noIndex("serve(0)", () -> x.serve(0));
        c.noIndex("setSetpoint(0, 0)", () -> x.setSetpoint(0, 0));
    }

    /** Promise 2. */
    private static void append() {
        ColdStores x = new ColdStores();
        c.same("append of zeros", x.append(0, 0, 0, 0, 0), 0);
        // "quay 4" with zero bytes within
        c.same("append with zeros", x.append(0x71000000, 0x00750061, 0, 0x00007920, 0x00000034), 6);
        c.same("errorPosition", x.errorPosition(), -1);
        c.same("load", x.load(), 0);
        c.sameText("the text", Checks.textOf(x), "quay 4");

        ColdStores y = new ColdStores();
        c.same("a negative word", y.append(0xff80fe7f, 0, 0, 0, 0x000000ff), 5);
        c.same("its errorPosition", y.errorPosition(), 0);

        ColdStores z = new ColdStores();
        for (int i = 1; i <= 45; i++) {
            c.same("append 20 spaces", z.append(0x20202020, 0x20202020, 0x20202020, 0x20202020,
                    0x20202020), 20 * i);
        }
        c.badState("one byte more than 900", () -> z.append(0, 0, 0, 0, 0x20));
        c.badState("a first byte more than 900", () -> z.append(0x20000000, 0, 0, 0, 0));
        c.same("nothing more than 900", z.append(0, 0, 0, 0, 0), 900);
        c.same("truncate", z.truncate(890), 890);
        c.badState("11 bytes more than 889", () -> z.append(0x61616161, 0x61616161, 0x61616100, 0, 0));
        c.same("nothing was appended", z.append(0, 0, 0, 0, 0), 890);
        c.same("10 bytes more", z.append(0x61006161, 0x61616161, 0x61616100, 0, 0), 900);
        c.same("errorPosition", z.errorPosition(), 890);
        for (int i = 0; i < 5; i++) {
            int[] words = new int[5];
            words[i] = 0x61;
            c.badState("one byte more, in word " + i,
                    () -> z.append(words[0], words[1], words[2], words[3], words[4]));
        }
        c.same("truncate", z.truncate(898), 898);
        c.badState("a byte in each of three words", () -> z.append(0, 0x61, 0, 0x61, 0x61));
        c.same("a byte in each of two words", z.append(0x61, 0, 0, 0x61, 0), 900);
    }

    /** Promise 3. */
    private static void truncate() {
        ColdStores x = new ColdStores();
        Checks.feed(x, "quay 4;x");
        c.same("truncate to its length", x.truncate(8), 8);
        c.badArgument("truncate to more", () -> x.truncate(9));
        c.badArgument("truncate to -1", () -> x.truncate(-1));
        c.badArgument("truncate to the least int", () -> x.truncate(Integer.MIN_VALUE));
        c.same("kept", x.errorPosition(), 7);
        c.same("truncate", x.truncate(6), 6);
        c.same("valid now", x.errorPosition(), -1);
        c.same("further bytes are put behind", Checks.feed(x, "1"), 7);
        c.same("41", x.errorPosition(), 5);
        c.same("truncate", x.truncate(0), 0);
        c.same("empty", x.errorPosition(), 0);
        Checks.feed(x, "quay   4");
        x.truncate(4);
        c.same("what was cut off is not read", x.errorPosition(), 4);
        x.truncate(0);
        c.same("what was cut off is not read", x.errorPosition(), 0);
    }

    /** Promise 4, from here on. */
    private static void emptyAndShort() {
        c.error("", 0);
        c.error("   ", 3);
        c.at("^;");
        c.at("quay 4;^");
        c.error("quay 4;  ", 9);
        c.at("quay 4;^;");
        c.at("quay 4 ^4");
        c.at("quay 4 ^quay");
        c.at("^quai 4");
        c.at("^Quay 4");
        c.at("^4");
        c.at("^-");
        c.valid("quay 4");
        c.valid("  quay  4  ");
        c.error("quay", 4);
        c.error("quay ", 5);
        c.error("quay - ", 7);
        c.at(" ^k");
    }

    private static void chamberStatements() {
        c.valid("chamber a 1 1 0");
        c.valid("chamber abcdef 6 4 -30");
        c.valid("chamber a 6 4 20");
        c.at("chamber a ^0 1 0");
        c.at("chamber a ^7 1 0");
        c.at("chamber a ^-1 1 0");
        c.at("chamber a 1 ^0 0");
        c.at("chamber a 1 ^5 0");
        c.at("chamber a 1 1 ^21");
        c.at("chamber a 1 1 -^31");
        c.at("chamber a 1 1 - ^31");
        c.at("chamber a 1 1 -^-3");
        c.at("chamber a 1 1 -^a");
        c.at("chamber a 1 1 ^a");
        c.at("chamber a 1 1 0 ^0");
        c.at("chamber a 1 1 ^;");
        c.error("chamber a 1 1", 13);
        c.error("chamber a 1", 11);
        c.error("chamber a", 9);
        c.error("chamber", 7);
        c.valid("chamber a 1 1 -0");
    }

    private static void doorStatements() {
        String k = "chamber k 2 3 0;goods g 0 1 1 0 0;";
        c.valid(k + "door k 0 0");
        c.valid(k + "door k 1 2;door k 1 2");
        c.at(k + "door k ^2 0");
        c.at(k + "door k 1 ^3");
        c.at(k + "door k ^-1 0");
        c.at(k + "door ^g 0 0");
        c.at(k + "door ^h 0 0");
        c.at(k + "door ^0 0 0");
        c.at(k + "door ^door 0 0");
        c.at("^d");
        c.at("door ^k 0 0;chamber k 2 3 0");
        c.at("chamber k 1 1 0;chamber l 2 1 0;door l 1 0;door k ^1 0");
        c.at("chamber k 1 1 0;chamber l 1 2 0;door l 0 1;door k 0 ^1");
        StringBuilder many = new StringBuilder(k);
        for (int i = 0; i < 60; i++) {
            many.append("door k 1 1;");
        }
        c.valid(many + "quay 3");
    }

    private static void goodsStatements() {
        c.valid("goods g -30 20 60 9 9");
        c.valid("goods g 5 5 1 0 0");
        c.valid("goods g -5 -5 1 0 0");
        c.at("goods g ^21 21 1 0 0");
        c.at("goods g -^31 0 1 0 0");
        c.at("goods g 5 ^4 1 0 0");
        c.at("goods g 5 -^5 1 0 0");
        c.at("goods g -5 -^6 1 0 0");
        c.valid("goods g -5 -4 1 0 0");
        c.at("goods g 0 ^21 1 0 0");
        c.at("goods g 0 0 ^0 0 0");
        c.at("goods g 0 0 ^61 0 0");
        c.at("goods g 0 0 ^-1 0 0");
        c.at("goods g 0 0 1 ^10 0");
        c.at("goods g 0 0 1 0 ^10");
        c.at("goods g 0 0 1 0 0 ^0");
        c.error("goods g 0 0 1 0", 15);
        c.at("goods g 0 0 1 0 ^;goods g 0 0 1 0 0");
    }

    private static void palletAndOrderStatements() {
        String g = "chamber k 2 3 0;goods g 0 1 1 0 0;";
        c.valid(g + "pallet g;pallet g");
        c.at(g + "pallet ^k");
        c.at(g + "pallet ^h");
        c.at(g + "pallet ^1");
        c.at(g + "pallet g ^1");
        c.error(g + "pallet", g.length() + 6);
        c.at("pallet ^g;goods g 0 1 1 0 0");
        c.valid(g + "order g 1 0;order g 9 365");
        c.at(g + "order ^k 1 0");
        c.at(g + "order g ^0 0");
        c.at(g + "order g ^10 0");
        c.at(g + "order g 1 ^366");
        c.at(g + "order g 1 ^-1");
        c.at(g + "order g 1 0 ^0");
    }

    private static void limitsAndQuayStatements() {
        c.valid("limits 0 0");
        c.valid("limits 999 999");
        c.at("limits ^1000 0");
        c.at("limits 0 ^1000");
        c.at("limits ^-1 0");
        c.at("limits 0 ^-1");
        c.at("limits 1 1;^limits 1 1");
        c.valid("quay -30");
        c.valid("quay 40");
        c.at("quay ^41");
        c.at("quay -^31");
        c.at("quay -^40");
        c.at("quay 1;limits 1 1;^quay 1");
        c.valid("quay 1;limits 1 1");
    }

    private static void names() {
        String both = "chamber k 1 1 0;goods g 0 1 1 0 0;";
        c.at("chamber ^abcdefg 1 1 0");
        c.at("chamber ^1 1 1 0");
        c.at("chamber ^A 1 1 0");
        for (String word : "chamber door goods pallet order limits quay".split(" ")) {
            c.at("chamber ^" + word + " 1 1 0");
            c.at("goods ^" + word + " 0 0 1 0 0");
        }
        c.valid("chamber quays 1 1 0;goods doors 0 0 1 0 0;goods goodsa 0 0 1 0 0;goods palle 0 0 1 0 0");
        c.at(both + "chamber ^k 1 1 0");
        c.at(both + "chamber ^g 1 1 0");
        c.at(both + "goods ^k 0 1 1 0 0");
        c.at(both + "goods ^g 0 1 1 0 0");
        c.valid(both + "goods kk 0 1 1 0 0;goods gg 0 1 1 0 0;chamber kg 1 1 0;chamber gk 1 1 0");
        c.valid("chamber zzzzzz 1 1 0;goods zzzzz 0 1 1 0 0;goods z 0 1 1 0 0;pallet zzzzz;door zzzzzz 0 0");
    }

    private static void tokens() {
        for (String word : "chamber door goods pallet order limits quay".split(" ")) {
            c.at("^z" + word.substring(1) + " a 1 1 1");
            c.at("^" + word.substring(0, word.length() - 1) + "z a 1 1 1");
            c.at("^" + word + "z a 1 1 1");
        }
        c.valid("limits1 1;quay-3");
        c.valid("chamber a1 1-3;door a0 0");
        c.valid(" limits 1 1 ; quay - 3 ");
        c.at("limits 1 ^01000");
        c.at("limits ^00001 1");
        c.valid("limits 0001 0999");
        c.at("limits 1 1^\n;quay 1");
        c.at("limits 1^\t1");
        c.at("limits 1 1^\u00a0");
        c.at("limits 1 1^\u00ff");
        c.at("limits ^one 1");
        c.at("limits ^99999999999999999999 1");
        c.at("limits 1^.5 1");
        c.at("quay ^+4");
        c.at("quay 4^,quay 4");
        c.at("^quayquay 4");
        c.at("limits 1 1^q");
        c.at("limits 1 1 ^99999");
        c.at("^{");
        c.at("^`");
        c.at("^/");
        c.at("limits ^: 1");
    }

    /** Only a T may have a sign. */
    private static void signs() {
        String k = "chamber k 2 3 0;goods g 0 1 1 0 0;";
        for (String text : new String[] {"chamber a ^-1 1 0", "chamber a 1 ^-1 0", k + "door k ^-0 0",
            k + "door k 0 ^-0", "goods g 0 0 ^-1 0 0", "goods g 0 0 1 ^-0 0", "goods g 0 0 1 0 ^-0",
            k + "order g ^-1 0", k + "order g 1 ^-0", "limits ^-0 0", "limits 0 ^-0"}) {
            c.at(text);
            c.at(text.replaceAll("-.*", "+1"));
        }
        c.valid("chamber a 1 1 -1;goods g -1 -0 1 0 0;quay -0");
    }

    private static void tooMany() {
        String chambers = "chamber a 1 1 0;chamber b 1 1 0;chamber c 1 1 0";
        c.valid(chambers);
        c.at(chambers + ";^chamber d 1 1 0");
        c.at(chambers + ";  ^chamber");
        String goods = "goods d 0 1 1 0 0;goods e 0 1 1 0 0;goods f 0 1 1 0 0;goods g 0 1 1 0 0;"
                + "goods h 0 1 1 0 0;goods i 0 1 1 0 0";
        c.valid(goods);
        c.at(goods + ";^goods j 0 1 1 0 0");
        String pallets = goods + ";pallet d;pallet e;pallet d;pallet d;pallet d;pallet d;pallet d;pallet i";
        c.valid(pallets);
        c.at(pallets + ";^pallet d");
        StringBuilder orders = new StringBuilder(goods);
        for (int i = 0; i < 10; i++) {
            orders.append(";order d 1 1");
        }
        c.valid(orders.toString());
        c.at(orders + ";^order d 1 1");
        c.valid(chambers + ";" + goods + ";pallet d;order d 1 1;limits 1 1;quay 1;door c 0 0");
    }

    /** Every text that ends within a statement has its error at its end. */
    private static void endsTooEarly() {
        String[] statements = {"chamber k 2 3 - 4", "goods g - 9 - 5 1 0 0", "door k 0 0", "pallet g",
            "order g 1 9", "limits 5 5", "quay - 3"};
        StringBuilder text = new StringBuilder();
        for (String statement : statements) {
            String[] tokens = statement.split(" ");
            for (int i = 0; i < tokens.length; i++) {
                c.error(text.toString(), text.length());
                c.error(text + " ", text.length() + 1);
                text.append(" ").append(tokens[i]);
            }
            c.valid(text.toString());
            c.valid(text + "  ");
            text.append(" ;");
        }
        c.error(text.toString(), text.length());
    }

    /** Promise 5. */
    private static void load() {
        ColdStores x = new ColdStores();
        c.badArgument("load of nothing", x::load);
        Checks.feed(x, "chamber a 2 3 -7;door a 1 2;goods g -8 2 3 4 5;goods h 1 2 3 0 0;pallet h;pallet g;"
                + "pallet h;order g 2 9;order h 3 0;limits 7 8;quay -1");
        c.same("load", x.load(), 3);
        c.same("an empty buffer", x.append(0, 0, 0, 0, 0), 0);
        c.same("chamberCount", x.chamberCount(), 1);
        c.same("goodsCount", x.goodsCount(), 2);
        c.same("orderCount", x.orderCount(), 2);
        c.same("palletCount", x.palletCount(), 3);
        c.same("waitingPallet", x.waitingPallet(0), 0);
        c.same("waitingPallet", x.waitingPallet(2), 2);
        c.same("goodsOf(0)", x.goodsOf(0), 1);
        c.same("goodsOf(1)", x.goodsOf(1), 0);
        c.same("setpoint", x.setpoint(0), -7);
        c.same("the door", x.reachableCells(0), 63);
        c.same("wayLength", x.wayLength(0, 1, 2), 1);
        c.same("wayLength", x.wayLength(0, 0, 0), 4);
        c.same("undoCount", x.undoCount(), 0);

        Checks.feed(x, "quay 7;quay");
        c.badArgument("load of an invalid text", x::load);
        c.same("everything is kept", x.palletCount(), 3);
        c.same("the buffer too", x.append(0, 0, 0, 0, 0), 11);
        c.same("errorPosition", x.errorPosition(), 7);
        c.same("the old text is in force", x.advance(1), 2);
        c.same("heat", x.heat(0), 20);
        c.same("errorPosition changes nothing", x.goodsCount(), 2);
    }

    private static void loadOverWaitingAndStored() {
        ColdStores x = Checks.loaded("chamber a 2 3 9;door a 1 1;chamber k 1 1 0;door k 0 0;goods g 0 4 30 7 7;"
                + "goods h 0 4 30 0 0;pallet g;pallet h;pallet g;pallet h;limits 1 1;quay 40");
        x.advance(2);
        x.store(0, 0, 0, 0);
        x.store(2, 0, 0, 2);
        x.advance(1);
        Checks.feed(x, "chamber a 3 2 4;goods g 0 4 1 9 9;pallet g;pallet g;quay 4");
        c.same("load", x.load(), 2);
        c.same("waitingCount", x.waitingCount(), 2);
        c.same("waitingPallet", x.waitingPallet(1), 1);
        c.same("chamberCount", x.chamberCount(), 1);
        for (int pallet = 0; pallet < 2; pallet++) {
            c.same("heat", x.heat(pallet), 0);
            c.same("taint", x.taint(pallet), 0);
            c.same("stateOf", x.stateOf(pallet), 0);
            c.same("chamberOf", x.chamberOf(pallet), -1);
            c.same("cellOf", x.cellOf(pallet), -1);
            c.same("arrivalDay", x.arrivalDay(pallet), 0);
        }
        c.same("no warming is left", x.temperature(0), 40);
        c.same("no door is left", x.reachableCells(0), 0);
        c.same("safeCells", x.safeCells(0, 0), 63);
        c.sameText("the text", Checks.textOf(x), "chamber a 3 2 4;goods g 0 4 1 9 9;pallet g;pallet g;quay 4");
        Checks.feed(x, "chamber a 3 2 4;door a 0 1;goods g 0 4 1 9 9");
        x.load();
        c.same("other columns", x.reachableCells(0), 63);
        c.same("other columns", x.wayLength(0, 2, 0), 4);
        c.same("other columns", x.wayLength(0, 1, 0), 3);
        Checks.feed(x, "chamber a 2 3 0");
        x.load();
        Checks.feed(x, "chamber a 3 2 4;door a 1 1");
        x.load();
        c.same("beside the door", x.wayLength(0, 1, 0), 2);
        c.same("no goods are left", x.zonesNeeded(), 0);
        Checks.feed(x, "goods a 0 9 1 0 0;goods b 4 5 1 0 0");
        x.load();
        Checks.feed(x, "goods a 0 9 1 0 0");
        x.load();
        c.same("only the new goods", x.zoneTemperature(0), 9);
        c.noIndex("only the new goods", () -> x.shelfLife(1));
    }

    private static void loadOverEverything() {
        ColdStores x = Checks.loaded("chamber a 2 3 4;door a 0 0;goods g 0 4 30 0 0;pallet g;pallet g;"
                + "pallet g;order g 1 9;limits 1 1;quay 40");
        x.store(0, 0, 0, 1);
        x.ship(1);
        x.discard(2);
        x.serve(0);
        x.setSetpoint(0, 9);
        x.save();
        x.advance(2);
        Checks.feed(x, "chamber b 1 2 5;door b 0 0;goods f 0 9 30 0 0;pallet f;order f 2 8");
        c.same("load", x.load(), 1);
        c.same("currentDay", x.currentDay(), 0);
        c.same("shippedCount", x.shippedCount(), 0);
        c.same("discardedCount", x.discardedCount(), 0);
        c.same("openings", x.openings(0), 0);
        c.same("temperature", x.temperature(0), 50);
        c.same("undoCount", x.undoCount(), 0);
        c.badState("undo", x::undo);
        c.badState("restore", x::restore);
        c.same("palletAt", x.palletAt(0, 0, 1), -1);
        c.same("stateOf", x.stateOf(0), 0);
        c.same("not served", x.order(0, 3), 0);
        c.same("reachableCells", x.reachableCells(0), 3);
        c.same("advance with the usual limits and quay", x.advance(3), 0);
        c.same("heat", x.heat(0), 90);
        c.sameText("the text", Checks.textOf(x),
                "chamber b 1 2 5;door b 0 0;goods f 0 9 30 0 0;pallet f;order f 2 8");
    }
}
