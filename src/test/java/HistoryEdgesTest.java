/** A test for each sentence of section 8 and of promises 58 to 61 that names a boundary. */
public final class HistoryEdgesTest {
    private static final Checks c = new Checks();
    private static final String CHANGE = "Every successful call of a method of the section \"Changes\" is a change,"
            + " unless its description says otherwise.";
    private static final String EIGHT = "The latest 8 changes can be undone one by one.";
    private static final String REFUSED = "A call that throws an exception changes nothing.";
    private static final String TEXT = "chamber u 2 3 2;door u 0 0;chamber v 1 2 2;door v 0 1;goods p 0 4 60 9 0;"
            + "goods q 0 4 60 0 0;goods n 0 4 60 0 9;pallet n;pallet p;pallet q;order n 1 9;order q 1 9;limits 999 99";

    public static void main(String[] args) throws java.io.IOException {
        c.runAll(HistoryEdgesTest.class);
        c.covered(58, 61);
        c.end("HistoryEdgesTest");
    }

    // ---- section 8

    /** Each is one change, and undoing it leaves all as it was. */
    private static void isOneChange(String what, ColdStores x, Checks.Call call) {
        String before = Checks.present(x);
        int count = x.undoCount();
        call.answer();
        c.same(what + " is one change", x.undoCount(), count + 1);
        x.undo();
        c.sameText(what + " undone", Checks.present(x), before);
        call.answer();
    }

    static void everyChange() {
        c.about("Section 8", CHANGE);
        ColdStores x = Checks.loaded(TEXT);
        isOneChange("arrive", x, () -> x.arrive(2));
        isOneChange("store", x, () -> x.store(0, 0, 1, 2));
        isOneChange("retrieve", x, () -> x.retrieve(0));
        isOneChange("autoStore", x, x::autoStore);
        isOneChange("shift", x, () -> x.shift(0, 0, 0));
        isOneChange("serve", x, () -> x.serve(0));
        ColdStores y = Checks.loaded(TEXT);
        isOneChange("ship", y, () -> y.ship(0));
        isOneChange("discard", y, () -> y.discard(1));
        isOneChange("setSetpoint", y, () -> y.setSetpoint(1, 3));
        isOneChange("advance", y, () -> y.advance(60));
        isOneChange("a setpoint that is the same", y, () -> y.setSetpoint(1, 3));
    }

    static void noChange() {
        c.about("Section 8", CHANGE);
        ColdStores x = Checks.loaded(TEXT);
        x.setSetpoint(0, 5);
        x.setSetpoint(1, 5);
        c.same("autoStore that stores nothing", x.autoStore(), 0);
        c.same("undoCount", x.undoCount(), 2);
        Checks.feed(x, "quay");
        x.truncate(2);
        x.errorPosition();
        x.save();
        x.daysLeft(0);
        x.spoilsWithin(100);
        x.availableFor(0);
        x.mostPairs(0, 0, 1);
        x.textLength();
        c.same("questions, input and save are none", x.undoCount(), 2);
    }

    static void eightOfMany() {
        c.about("Section 8", EIGHT);
        ColdStores x = Checks.loaded(TEXT);
        for (int i = 0; i < 20; i++) {
            x.setSetpoint(0, i);
        }
        for (int i = 18; i >= 11; i--) {
            x.undo();
            c.same("setpoint", x.setpoint(0), i);
        }
        c.badState("a ninth", x, x::undo);
        c.same("setpoint", x.setpoint(0), 11);
    }

    static void eightOfEight() {
        c.about("Section 8", EIGHT);
        ColdStores x = Checks.loaded(TEXT);
        for (int i = 0; i < 8; i++) {
            x.setSetpoint(0, 10 + i);
        }
        for (int i = 7; i >= 0; i--) {
            c.same("undo", x.undo(), i);
        }
        c.same("as loaded", x.setpoint(0), 2);
        c.badState("a ninth", x, x::undo);
    }

    static void eightOfNine() {
        c.about("Section 8", EIGHT);
        ColdStores x = Checks.loaded(TEXT);
        for (int i = 0; i < 9; i++) {
            x.setSetpoint(0, 10 + i);
        }
        for (int i = 7; i >= 0; i--) {
            c.same("undo", x.undo(), i);
        }
        c.same("the first change stays", x.setpoint(0), 10);
        c.badState("a ninth", x, x::undo);
    }

    static void refusedInput() {
        c.about("Section 8", REFUSED);
        ColdStores x = Checks.loaded(TEXT);
        x.advance(1);
        c.badArgument("load of nothing", x, x::load);
        Checks.feed(x, "chamber a 1 1 1;goods b 0 1 1 0 0;pallet b;order b 1 1;limits 1 1;quay 1;");
        c.badArgument("load", x, x::load);
        c.badArgument("truncate", x, () -> x.truncate(-1));
        for (int i = 0; i < 41; i++) {
            x.append(-1, -1, -1, -1, -1);
        }
        c.badState("append", x, () -> x.append(-1, -1, -1, -1, -1));
    }

    static void refusedChanges() {
        c.about("Section 8", REFUSED);
        ColdStores x = Checks.loaded(TEXT);
        x.store(0, 0, 0, 0);
        c.noIndex("arrive", x, () -> x.arrive(3));
        c.badState("store", x, () -> x.store(1, 0, 0, 1));
        c.badArgument("store", x, () -> x.store(1, 0, 2, 1));
        c.badState("retrieve", x, () -> x.retrieve(1));
        c.badState("shift", x, () -> x.shift(0, 0, 0));
        c.badState("ship", x, () -> x.ship(0));
        c.badState("discard", x, () -> x.discard(0));
        c.noIndex("serve", x, () -> x.serve(2));
        c.badArgument("setSetpoint", x, () -> x.setSetpoint(0, 21));
        c.badArgument("advance", x, () -> x.advance(61));
    }

    /** What serve has taken before it finds too few is given back. */
    static void refusedInTheMiddle() {
        c.about("Section 8", REFUSED);
        ColdStores x = Checks.loaded("chamber u 1 4 2;door u 0 0;goods n 0 4 60 0 9;pallet n;pallet n;pallet n;"
                + "order n 4 9");
        x.store(0, 0, 0, 3);
        x.store(1, 0, 0, 1);
        c.badState("three of four", x, () -> x.serve(0));
        c.same("undo", x.undo(), 1);
        c.same("one is in the chamber", x.palletAt(0, 0, 3), 0);
        c.same("the other is not", x.palletAt(0, 0, 1), -1);
    }

    // ---- promises 58 and 59: undo

    static void undoTheLatest() {
        c.about("Promise 58", "Undoes the latest change that was not undone yet.");
        ColdStores x = Checks.loaded(TEXT);
        x.setSetpoint(0, 10);
        x.setSetpoint(0, 11);
        x.undo();
        c.same("the latest", x.setpoint(0), 10);
        x.setSetpoint(0, 12);
        x.undo();
        c.same("a newer one", x.setpoint(0), 10);
        x.undo();
        c.same("the one before", x.setpoint(0), 2);
    }

    static void undoAnswersWhatIsLeft() {
        c.about("Promise 58", "Returns the number of changes that can still be undone.");
        ColdStores x = Checks.loaded(TEXT);
        x.advance(1);
        c.same("none is left", x.undo(), 0);
        for (int i = 0; i < 12; i++) {
            x.advance(1);
        }
        c.same("seven are left", x.undo(), 7);
        x.advance(1);
        x.advance(1);
        c.same("eight at most", x.undoCount(), 8);
        c.same("seven are left", x.undo(), 7);
    }

    static void undoOfNothing() {
        c.about("Promise 58", "Throws IllegalStateException if there is none to undo");
        ColdStores none = new ColdStores();
        c.badState("a new object", none, none::undo);
        ColdStores x = Checks.loaded(TEXT);
        c.badState("after load", x, x::undo);
        x.advance(1);
        x.undo();
        c.badState("after the only one", x, x::undo);
        x.save();
        c.badState("save is none", x, x::undo);
        x.advance(1);
        x.restore();
        c.badState("after restore", x, x::undo);
    }

    static void countOfChanges() {
        c.about("Promise 59", "Returns 0 to 8.");
        ColdStores x = new ColdStores();
        c.same("a new object", x.undoCount(), 0);
        for (int i = 1; i <= 20; i++) {
            x.advance(1);
            c.same("undoCount", x.undoCount(), Math.min(i, 8));
        }
        for (int i = 7; i >= 0; i--) {
            x.undo();
            c.same("undoCount", x.undoCount(), i);
        }
    }

    // ---- promises 60 and 61: save and restore

    static void saveInPlaceOfAnEarlierCopy() {
        c.about("Promise 60", "Saves a copy of everything but the input buffer and the undo history, in place of an"
                + " earlier copy.");
        ColdStores x = Checks.loaded(TEXT);
        x.save();
        x.store(0, 0, 1, 2);
        x.advance(2);
        x.serve(1);
        x.setSetpoint(1, -30);
        x.save();
        String second = Checks.present(x);
        x.advance(3);
        x.discard(1);
        x.retrieve(0);
        x.restore();
        c.sameText("the second copy", Checks.present(x), second);
    }

    static void saveNeitherBufferNorHistory() {
        c.about("Promise 60", "Saves a copy of everything but the input buffer and the undo history, in place of an"
                + " earlier copy.");
        ColdStores x = Checks.loaded(TEXT);
        x.advance(1);
        Checks.feed(x, "quay 1");
        x.save();
        c.same("the history is kept", x.undoCount(), 1);
        c.same("the buffer is kept", x.truncate(6), 6);
        x.truncate(3);
        x.restore();
        c.same("the buffer is not restored", x.append(0, 0, 0, 0, 0), 3);
        c.badState("nor is the history", x, x::undo);
    }

    static void saveAnswersTheDay() {
        c.about("Promise 60", "Returns the current day.");
        ColdStores x = new ColdStores();
        c.same("the first", x.save(), 0);
        for (int i = 0; i < 6; i++) {
            x.advance(60);
        }
        x.advance(5);
        c.same("the last", x.save(), 365);
    }

    static void restoreKeepsTheCopy() {
        c.about("Promise 61", "Makes everything equal to the saved copy, which is kept, and clears the undo history.");
        ColdStores x = Checks.loaded(TEXT);
        x.store(0, 0, 0, 1);
        x.save();
        String saved = Checks.present(x);
        for (int i = 0; i < 3; i++) {
            x.retrieve(0);
            x.advance(1);
            x.arrive(0);
            x.restore();
            c.sameText("restored", Checks.present(x), saved);
            c.same("undoCount", x.undoCount(), 0);
        }
        c.badState("undo", x, x::undo);
    }

    static void restoreTwice() {
        c.about("Promise 61", "Makes everything equal to the saved copy, which is kept, and clears the undo history.");
        ColdStores x = Checks.loaded(TEXT);
        x.save();
        String saved = Checks.present(x);
        c.same("without a change between", x.restore(), 0);
        c.sameText("nothing is changed", Checks.present(x), saved);
        x.advance(1);
        x.undo();
        x.restore();
        c.sameText("after undo", Checks.present(x), saved);
    }

    static void restoreAnswersTheDay() {
        c.about("Promise 61", "Returns the current day afterwards.");
        ColdStores x = Checks.loaded(TEXT);
        x.save();
        x.advance(60);
        c.same("day 0", x.restore(), 0);
        x.advance(7);
        x.save();
        x.advance(1);
        c.same("day 7", x.restore(), 7);
        c.same("currentDay", x.currentDay(), 7);
    }

    static void restoreWithoutACopy() {
        c.about("Promise 61", "Throws IllegalStateException if there is no copy");
        ColdStores none = new ColdStores();
        c.badState("a new object", none, none::restore);
        ColdStores x = Checks.loaded(TEXT);
        x.advance(1);
        c.badState("none was saved", x, x::restore);
        x.save();
        Checks.feed(x, "quay 99");
        c.badArgument("a load that fails", x, x::load);
        c.same("keeps the copy", x.restore(), 1);
        x.truncate(6);
        x.load();
        c.badState("load removes it", x, x::restore);
    }
}
