/** Promises 58 to 61, and section 8. */
public final class HistoryTest {
    private static final Checks c = new Checks();
    private static final String TEXT = "chamber a 2 3 2;door a 0 0;chamber k 1 2 10;door k 0 1;goods f 0 4 10 5 2;"
            + "goods m 0 4 20 1 3;goods b -30 20 60 0 9;pallet m;pallet b;pallet f;order m 1 5;order b 1 365;limits 300 30";

    public static void main(String[] args) {
        everyChange();
        eight();
        notAChange();
        undoAndGoOn();
        saveAndRestore();
        endOfAPallet();
        arriveAgain();
        saveAndLoad();
        wrongCalls();
        c.end("HistoryTest");
    }

    private static void change(ColdStores x, int which) {
        switch (which) {
            case 0:
                x.arrive(2);
                break;
            case 1:
                x.store(0, 0, 1, 2);
                break;
            case 2:
                x.shift(0, 1, 0);
                break;
            case 3:
                x.retrieve(0);
                break;
            case 4:
                x.advance(2);
                break;
            case 5:
                x.autoStore();
                break;
            case 6:
                x.setSetpoint(0, -3);
                break;
            case 7:
                x.serve(1);
                break;
            case 8:
                x.retrieve(2);
                break;
            case 9:
                x.ship(2);
                break;
            case 10:
                x.retrieve(0);
                break;
            default:
                x.discard(0);
                break;
        }
    }

    /** Promises 58 and 59: each change is undone wholly. */
    private static void everyChange() {
        ColdStores x = Checks.loaded(TEXT);
        for (int i = 0; i < 12; i++) {
            String before = Checks.present(x);
            int count = x.undoCount();
            c.same("undoCount before " + i, count, Math.min(i, 8));
            change(x, i);
            c.no("change " + i + " changes", Checks.present(x).equals(before));
            String after = Checks.present(x);
            c.same("undoCount after " + i, x.undoCount(), Math.min(i + 1, 8));
            c.same("undo of " + i, x.undo(), Math.min(i, 7));
            c.sameText("undone " + i, Checks.present(x), before);
            change(x, i);
            c.sameText("done again " + i, Checks.present(x), after);
        }
    }

    private static void eight() {
        ColdStores x = Checks.loaded(TEXT);
        String[] facts = new String[13];
        for (int i = 0; i < 12; i++) {
            facts[i] = Checks.present(x);
            change(x, i);
        }
        c.same("undoCount", x.undoCount(), 8);
        for (int i = 11; i >= 4; i--) {
            c.same("undo", x.undo(), i - 4);
            c.sameText("undone " + i, Checks.present(x), facts[i]);
        }
        c.same("undoCount", x.undoCount(), 0);
        c.badState("a ninth", x::undo);
        c.sameText("nothing was changed", Checks.present(x), facts[4]);
    }

    private static void notAChange() {
        ColdStores x = Checks.loaded(TEXT);
        x.setSetpoint(0, 2);
        c.same("a setpoint that is the same", x.undoCount(), 1);
        c.same("autoStore", x.autoStore(), 3);
        c.same("autoStore", x.undoCount(), 2);
        c.same("autoStore without a pallet", x.autoStore(), 0);
        c.same("undoCount", x.undoCount(), 2);
        x.save();
        x.append(0, 0, 0, 0, 1);
        x.truncate(0);
        x.errorPosition();
        x.daysLeft(0);
        x.spoilsWithin(9);
        x.availableFor(0);
        c.same("questions, input and save", x.undoCount(), 2);
        c.badState("a wrong change", () -> x.ship(0));
        c.badArgument("a wrong load", x::load);
        c.same("undoCount", x.undoCount(), 2);
        x.append(0, 0, 0, 0, 'q');
        c.same("undo", x.undo(), 1);
        c.same("the input buffer is kept", x.append(0, 0, 0, 0, 0), 1);
    }

    private static void undoAndGoOn() {
        ColdStores x = Checks.loaded(TEXT);
        for (int i = 0; i < 10; i++) {
            x.setSetpoint(0, i);
        }
        x.undo();
        x.undo();
        x.undo();
        c.same("setpoint", x.setpoint(0), 6);
        c.same("undoCount", x.undoCount(), 5);
        for (int i = 0; i < 5; i++) {
            x.setSetpoint(0, -i);
        }
        c.same("undoCount", x.undoCount(), 8);
        for (int i = 4; i > 0; i--) {
            x.undo();
            c.same("setpoint", x.setpoint(0), 1 - i);
        }
        int[] before = {6, 5, 4, 3};
        for (int due : before) {
            x.undo();
            c.same("setpoint", x.setpoint(0), due);
        }
        c.badState("undo", x::undo);
    }

    /** Promises 60 and 61. */
    private static void saveAndRestore() {
        ColdStores x = Checks.loaded(TEXT);
        c.badState("no copy", x::restore);
        x.advance(3);
        x.store(0, 0, 1, 2);
        String first = Checks.present(x);
        c.same("save", x.save(), 3);
        c.sameText("save changes nothing", Checks.present(x), first);
        c.same("save keeps the history", x.undoCount(), 2);
        x.advance(4);
        x.setSetpoint(0, 7);
        x.serve(1);
        x.discard(2);
        c.same("restore", x.restore(), 3);
        c.sameText("restored", Checks.present(x), first);
        c.same("undoCount", x.undoCount(), 0);
        c.badState("undo", x::undo);
        x.retrieve(0);
        x.ship(0);
        c.same("the copy is kept", x.restore(), 3);
        c.sameText("restored", Checks.present(x), first);
        x.advance(2);
        String second = Checks.present(x);
        c.same("save again", x.save(), 5);
        x.advance(2);
        c.same("in place of the earlier copy", x.restore(), 5);
        c.sameText("restored", Checks.present(x), second);
        x.arrive(0);
        x.undo();
        c.sameText("undo after restore", Checks.present(x), second);
        Checks.feed(x, "quay");
        c.same("restore", x.restore(), 5);
        c.same("the input buffer is not restored", x.append(0, 0, 0, 0, 0), 4);
        x.save();
        x.truncate(1);
        x.restore();
        c.same("nor saved", x.append(0, 0, 0, 0, 0), 1);

        ColdStores y = new ColdStores();
        c.same("save of a new object", y.save(), 0);
        y.advance(2);
        c.same("restore of a new object", y.restore(), 0);
        c.same("currentDay", y.currentDay(), 0);
        c.same("undoCount", y.undoCount(), 0);
    }

    /** The day on which a pallet was discarded is undone and restored too. */
    private static void endOfAPallet() {
        ColdStores x = Checks.loaded("goods g 0 20 3 0 0;pallet g");
        x.advance(2);
        x.discard(0);
        c.no("discarded in time", x.isSpoiled(0));
        x.save();
        x.undo();
        x.advance(3);
        x.discard(0);
        c.yes("discarded late", x.isSpoiled(0));
        x.restore();
        c.no("discarded in time", x.isSpoiled(0));
        c.same("currentDay", x.currentDay(), 2);
    }

    /** What an undone pallet has gathered is not left to the next one of its number. */
    private static void arriveAgain() {
        ColdStores x = Checks.loaded("chamber a 1 1 0;door a 0 0;goods g 0 4 30 9 9;goods h 0 4 30 0 0;pallet g");
        x.arrive(1);
        x.advance(1);
        x.store(1, 0, 0, 0);
        x.undo();
        x.undo();
        x.undo();
        c.same("arrive", x.arrive(0), 1);
        c.same("heat", x.heat(1), 0);
        c.same("taint", x.taint(1), 0);
        c.same("stateOf", x.stateOf(1), 0);
        c.same("goodsOf", x.goodsOf(1), 0);
        c.same("palletAt", x.palletAt(0, 0, 0), -1);
    }

    private static void saveAndLoad() {
        ColdStores x = Checks.loaded(TEXT);
        x.save();
        x.advance(1);
        Checks.feed(x, "quay 99");
        c.badArgument("a wrong load", x::load);
        c.same("keeps the history", x.undoCount(), 1);
        c.same("and the copy", x.restore(), 0);
        x.advance(1);
        x.truncate(6);
        c.same("load", x.load(), 0);
        c.badState("removes the copy", x::restore);
        c.same("and the history", x.undoCount(), 0);
    }

    private static void wrongCalls() {
        ColdStores x = Checks.loaded(TEXT);
        c.badState("undo", x::undo);
        c.badState("restore", x::restore);
        x.advance(1);
        c.badState("restore", x::restore);
        c.same("undoCount", x.undoCount(), 1);
        c.same("currentDay", x.currentDay(), 1);
        c.same("undo", x.undo(), 0);
        c.badState("undo", x::undo);
        c.same("currentDay", x.currentDay(), 0);
    }
}
