/** Promises 56 and 57. */
public final class OutputTest {
    private static final Checks c = new Checks();

    public static void main(String[] args) {
        empty();
        order();
        present();
        limitsAndQuay();
        names();
        longText();
        c.end("OutputTest");
    }

    private static void same(String what, ColdStores x, String due) {
        c.same(what + ", length", x.textLength(), due.length());
        c.sameText(what, Checks.textOf(x), due);
        c.noIndex(what + ", behind it", () -> x.textByte(due.length()));
        c.noIndex(what + ", before it", () -> x.textByte(-1));
    }

    private static void empty() {
        ColdStores x = new ColdStores();
        same("a new object", x, "");
        c.noIndex("the greatest int", () -> x.textByte(Integer.MAX_VALUE));
        c.noIndex("the least int", () -> x.textByte(Integer.MIN_VALUE));
        x.advance(5);
        same("the day is not in it", x, "");
    }

    private static void order() {
        ColdStores x = Checks.loaded(" quay -05 ;limits 0007 9; goods g - 1 2 3 4 5;order g 1 010;goods h 0 0 1 0 0;"
                + "pallet h;chamber k 2 3 - 30;pallet g;chamber a 1 2 0;door a 0 1;door k 1 2;door k 0 2;door k 1 0;"
                + "door k 1 2; order  h 2 365 ");
        same("in the order of the document", x, "chamber k 2 3 -30;chamber a 1 2 0;door k 0 2;door k 1 0;"
                + "door k 1 2;door a 0 1;goods g -1 2 3 4 5;goods h 0 0 1 0 0;pallet h;pallet g;order g 1 10;"
                + "order h 2 365;limits 7 9;quay -5");
    }

    private static void present() {
        ColdStores x = Checks.loaded("chamber k 2 3 2;door k 0 0;goods g 0 20 30 0 0;goods h 0 20 30 0 0;"
                + "pallet g;pallet h;pallet g;pallet h;order g 1 9;order h 1 9");
        x.setSetpoint(0, -12);
        x.store(0, 0, 0, 0);
        x.serve(0);
        x.arrive(0);
        String rest = "chamber k 2 3 -12;door k 0 0;goods g 0 20 30 0 0;goods h 0 20 30 0 0;";
        same("the present setup", x, rest + "pallet h;pallet g;pallet h;pallet g;order h 1 9");
        x.ship(3);
        x.discard(1);
        same("without what has left", x, rest + "pallet g;pallet g;order h 1 9");
        x.undo();
        same("after undo", x, rest + "pallet h;pallet g;pallet g;order h 1 9");

        ColdStores y = Checks.loaded(Checks.textOf(x));
        same("loaded again", y, Checks.textOf(x));
        c.same("textByte", x.textByte(0), 'c');
        c.same("textByte", x.textByte(7), ' ');
        c.same("textByte", x.textByte(14), '-');
        c.same("textByte", x.textByte(15), '1');
        c.same("textByte", x.textByte(17), ';');
        c.same("textByte", x.textByte(x.textLength() - 1), '9');
    }

    private static void limitsAndQuay() {
        same("the usual ones", Checks.loaded("limits 100 10;quay 12;chamber a 1 1 0"), "chamber a 1 1 0");
        same("only the usual ones", Checks.loaded("limits 100 10;quay 12"), "");
        same("another heat limit", Checks.loaded("limits 99 10"), "limits 99 10");
        same("another taint limit", Checks.loaded("limits 100 0"), "limits 100 0");
        same("the greatest", Checks.loaded("limits 999 999;quay 40"), "limits 999 999;quay 40");
        same("another quay", Checks.loaded("quay 0"), "quay 0");
        same("minus twelve", Checks.loaded("quay -12"), "quay -12");
    }

    private static void names() {
        same("names", Checks.loaded("chamber azazaz 1 1 0;chamber zz 1 1 0;chamber a 1 1 0;goods zzzzzz 0 0 1 0 0;"
                + "goods aaaaa 0 0 1 0 0;pallet aaaaa;door zz 0 0"), "chamber azazaz 1 1 0;chamber zz 1 1 0;"
                + "chamber a 1 1 0;door zz 0 0;goods zzzzzz 0 0 1 0 0;goods aaaaa 0 0 1 0 0;pallet aaaaa");
    }

    /** The written text may be longer than the input buffer. */
    private static void longText() {
        StringBuilder text = new StringBuilder("chamber abcdef 6 4 0;chamber b 6 4 0;goods ghijkl 0 0 1 0 0");
        for (int i = 0; i < 24; i++) {
            text.append(";door abcdef ").append(i / 4).append(" ").append(i % 4);
        }
        for (int i = 0; i < 24; i++) {
            text.append(";door b ").append(i / 4).append(" ").append(i % 4);
        }
        String before = text.toString();
        ColdStores x = Checks.loaded(before);
        x.setSetpoint(0, -30);
        x.setSetpoint(1, -30);
        for (int i = 0; i < 8; i++) {
            x.arrive(0);
        }
        c.same("textLength", x.textLength(), before.length() + 4 + 8 * ";pallet ghijkl".length());
        c.same("the last byte", x.textByte(x.textLength() - 1), 'l');
        c.noIndex("behind it", () -> x.textByte(x.textLength()));
    }
}
