/** A test for each sentence of section 7 and of promises 1 to 5, 56 and 57 that names a boundary. */
public final class TextEdgesTest {
    private static final Checks c = new Checks();
    private static final String SECTION = "Section 7";
    private static final String TOKENS = "Tokens are words (maximal runs of letters a to z), numbers (maximal runs"
            + " of digits, at most four) and single other bytes.";
    private static final String SIGN = "T is a number, or the sign - and a number (a sign can be accepted wherever a"
            + " T stands; if the number behind it is out of its range with it, the error is at this number).";
    private static final String NAME = "A name has 1 to 6 letters, is not one of the words chamber, door, goods,"
            + " pallet, order, limits and quay, and is not the name of a chamber or of goods that were defined"
            + " before.";
    private static final String RANGES = "All numbers are in the ranges of sections 1 to 6, ROW and COLUMN are a row"
            + " and a column of the chamber.";
    private static final String POSITION = "The error position of a text is the offset of the first token that cannot"
            + " be accepted, or the length of the text if the text ends too early.";
    private static final String NOT_ACCEPTED = "A token cannot be accepted if no statement can continue with it, if it"
            + " is a number of more than four digits or (together with its sign) out of its range, or if it is a name"
            + " that is not allowed, not defined, or of the other sort.";
    private static final String TOO_MANY = "In addition, a statement of which there are too many is an error at its"
            + " first word.";
    private static final String TOO_LONG = "Throws IllegalStateException if the buffer would have more than 900 bytes"
            + " (nothing is appended then)";
    private static final String WRITTEN = "Returns the length of the present setup written as a text (section 7), with"
            + " the statements in this order: chambers with their present setpoints; doors by chamber, row and column;"
            + " goods; a pallet statement for each waiting pallet in the order in which they are waiting; the orders"
            + " that were not served; a limits statement if the limits are not 100 and 10; a quay statement if the"
            + " temperature of the quay is not 12.";
    private static final String[] WORDS = {"chamber", "door", "goods", "pallet", "order", "limits", "quay"};
    /** A chamber k of 2 rows and 3 columns, and goods g. */
    private static final String KG = "chamber k 2 3 0;goods g 0 1 1 0 0;";

    public static void main(String[] args) throws java.io.IOException {
        c.runAll(TextEdgesTest.class);
        c.covered(2, 5);
        c.covered(56, 57);
        c.end("TextEdgesTest");
    }

    private static String times(int count, String text) {
        return text.repeat(count);
    }

    // ---- section 7

    static void atLeastOneStatement() {
        c.about(SECTION, "A text consists of statements separated by semicolons; there is at least one statement.");
        c.error("", 0);
        c.error(" ", 1);
        c.valid("quay 1");
        c.at("^;");
        c.at("^;quay 1");
        c.error("quay 1;", 7);
        c.error("quay 1; ", 8);
        c.at("quay 1;^;limits 1 1");
        c.valid("quay 1;limits 1 1");
        c.at("quay 1 ^limits 1 1");
    }

    static void words() {
        c.about(SECTION, TOKENS);
        c.valid("chamber az1 1 0");
        c.at("^chamberaz 1 1 0");
        c.at("^`uay 1");
        c.at("^{uay 1");
        c.at("chamber ^A 1 1 0");
        c.at("chamber a^Z 1 1 0");
        c.at("^Quay 1");
        c.at("quay^_1");
    }

    static void numbers() {
        c.about(SECTION, TOKENS);
        c.valid("limits 0000 0009");
        c.valid("limits 999 0999");
        c.at("limits ^00000 0");
        c.at("limits ^00009 0");
        c.at("limits 0 ^00000");
        c.at("limits ^12345 0");
        c.at("limits ^/ 0");
        c.at("limits ^: 0");
    }

    static void otherBytes() {
        c.about(SECTION, TOKENS);
        c.valid("quay-1");
        c.at("quay -^-1");
        c.at("quay 1^,;");
        c.at("quay ^\u00801");
        c.at("quay ^\u00ff1");
        c.at("quay ^\u00011");
        c.at("quay ^.1");
    }

    static void spaces() {
        c.about(SECTION, "Spaces (byte 32) may stand before and after every token.");
        c.valid("  quay  -  1  ;  limits  1  1  ");
        c.valid("quay-1;limits1 1");
        c.valid(times(890, " ") + "quay 1");
        c.at("quay^\t1");
        c.at("quay 1^\n");
        c.at("quay 1^\r;limits 1 1");
        c.at("quay ^\u00a01");
        c.at("^qu ay 1");
        c.at("limits 1 ^-1");
    }

    static void chamberStatement() {
        c.about(SECTION, "chamber NAME ROWS COLUMNS T: defines a chamber with the setpoint T.");
        c.same("setpoint", Checks.loaded("chamber k 1 1 - 7").setpoint(0), -7);
        c.at("chamber ^1 1 1 0");
        c.at("chamber k ^k 1 0");
        c.at("chamber k 1 ^; 0");
        c.at("chamber k 1 1 ^k");
        c.at("chamber k 1 1 0 ^0");
    }

    static void doorStatement() {
        c.about(SECTION, "door CHAMBER ROW COLUMN: the cell has a door; it may have one already.");
        ColdStores x = Checks.loaded("chamber k 2 3 0;door k 1 2;door k 1 2");
        c.same("one door", x.wayLength(0, 0, 0), 4);
        c.sameText("written once", Checks.textOf(x), "chamber k 2 3 0;door k 1 2");
        c.valid("chamber k 1 1 0" + times(70, ";door k 0 0"));
        c.at(KG + "door ^0 0 0");
        c.at(KG + "door k ^k 0");
        c.at(KG + "door k 0 ^;");
        c.at(KG + "door k 0 0 ^0");
    }

    static void goodsStatement() {
        c.about(SECTION, "goods NAME T T LIFE SMELL SENSITIVITY: defines goods with their lowest and highest"
                + " temperature.");
        ColdStores x = Checks.loaded("goods g - 9 - 8 7 6 5");
        c.same("lowestTemperature", x.lowestTemperature(0), -9);
        c.same("highestTemperature", x.highestTemperature(0), -8);
        c.same("shelfLife", x.shelfLife(0), 7);
        c.at("goods ^1 0 1 1 0 0");
        c.at("goods g ^g 1 1 0 0");
        c.at("goods g 0 ^; 1 0 0");
        c.at("goods g 0 1 ^g 0 0");
        c.at("goods g 0 1 1 ^; 0");
        c.at("goods g 0 1 1 0 ^g");
        c.at("goods g 0 1 1 0 0 ^0");
    }

    static void palletStatement() {
        c.about(SECTION, "pallet GOODS: brings a pallet to the quay on day 0.");
        ColdStores x = Checks.loaded(KG + "pallet g");
        c.same("arrivalDay", x.arrivalDay(0), 0);
        c.same("stateOf", x.stateOf(0), 0);
        c.at(KG + "pallet ^1");
        c.at(KG + "pallet ^;");
        c.at(KG + "pallet g ^g");
    }

    static void orderStatement() {
        c.about(SECTION, "order GOODS COUNT DAY: defines an order.");
        c.same("orderCount", Checks.loaded(KG + "order g 2 3").orderCount(), 1);
        c.at(KG + "order ^1 1 1");
        c.at(KG + "order g ^g 1");
        c.at(KG + "order g 1 ^;");
        c.at(KG + "order g 1 1 ^1");
    }

    static void limitsStatement() {
        c.about(SECTION, "limits HEAT TAINT: sets the two limits.");
        c.sameText("the limits", Checks.textOf(Checks.loaded("limits 3 4")), "limits 3 4");
        c.at("limits ^g 1");
        c.at("limits 1 ^;");
        c.at("limits 1 1 ^1");
    }

    static void quayStatement() {
        c.about(SECTION, "quay T: sets the temperature of the quay.");
        c.sameText("the quay", Checks.textOf(Checks.loaded("quay -3")), "quay -3");
        c.at("quay ^g");
        c.at("quay ^;");
        c.at("quay 1 ^1");
    }

    static void onlyOneLimitsAndQuay() {
        c.about(SECTION, "Each of the last two statements may occur once.");
        c.valid("quay 1;limits 1 1");
        c.valid("limits 1 1;quay 1");
        c.at("limits 1 1;^limits 1 1");
        c.at("quay 1;^quay 1");
        c.at("quay 1;limits 1 1;^quay 2");
        c.at("limits 1 1;quay 1;^limits");
        c.at("limits 100 10;^limits 100 10");
        c.at("quay 12;^quay 12");
    }

    static void signedNumbers() {
        c.about(SECTION, SIGN);
        c.valid("chamber k 1 1 -1;goods g -2 -1 1 0 0;quay -1");
        c.valid("chamber k 1 1 - 1;goods g - 2 - 1 1 0 0;quay - 1");
        c.valid("chamber k 1 1 -0;goods g -0 -0 1 0 0;quay -0");
        c.valid("quay -0030");
        c.at("quay -^00030");
        c.error("quay -", 6);
        c.at("quay -^;");
        c.at("quay -^a");
        c.at("quay ^+1");
    }

    static void signThatLeadsOutOfRange() {
        c.about(SECTION, SIGN);
        c.at("chamber k 1 1 -^31");
        c.at("chamber k 1 1 -  ^31");
        c.at("goods g -^31 0 1 0 0");
        c.at("goods g 5 -^1 1 0 0");
        c.at("goods g 20 -^20 1 0 0");
        c.at("quay -^31");
        c.at("quay -^40");
        c.at("quay -^9999");
    }

    static void signWhereNoTStands() {
        c.about(SECTION, SIGN);
        for (String text : new String[] {"chamber k ^-1 1 0", "chamber k 1 ^-1 0", "goods g 0 0 ^-1 0 0",
            "goods g 0 0 1 ^-0 0", "goods g 0 0 1 0 ^-0", "limits ^-0 0", "limits 0 ^-0", KG + "door k ^-0 0",
            KG + "door k 0 ^-0", KG + "order g ^-1 0", KG + "order g 1 ^-0", KG + "pallet ^-g"}) {
            c.at(text);
        }
    }

    static void lengthOfAName() {
        c.about(SECTION, NAME);
        c.valid("chamber a 1 1 0;goods b 0 1 1 0 0");
        c.valid("chamber abcdef 1 1 0;goods zyxwvu 0 1 1 0 0;door abcdef 0 0;pallet zyxwvu");
        c.at("chamber ^abcdefg 1 1 0");
        c.at("goods ^abcdefg 0 1 1 0 0");
        c.at("chamber ^" + times(800, "a") + " 1 1 0");
        c.at("chamber ^1 1 0");
    }

    static void wordsThatAreNoNames() {
        c.about(SECTION, NAME);
        for (String word : WORDS) {
            c.at("chamber ^" + word + " 1 1 0");
            c.at("goods ^" + word + " 0 1 1 0 0");
        }
        c.valid("chamber doo 1 1 0;chamber doors 1 1 0;goods quays 0 1 1 0 0;goods qua 0 1 1 0 0");
    }

    static void namesDefinedBefore() {
        c.about(SECTION, NAME);
        c.at(KG + "chamber ^k 1 1 0");
        c.at(KG + "chamber ^g 1 1 0");
        c.at(KG + "goods ^k 0 1 1 0 0");
        c.at(KG + "goods ^g 0 1 1 0 0");
        c.valid(KG + "chamber kk 1 1 0;goods gg 0 1 1 0 0");
        ColdStores x = Checks.loaded(KG + "quay 1");
        Checks.feed(x, KG + "quay 1");
        c.same("names of an earlier text do not count", x.errorPosition(), -1);
    }

    static void namesThatAreUsed() {
        c.about(SECTION, "CHAMBER and GOODS stand for names of that sort that were defined before.");
        c.valid(KG + "door k 0 0;pallet g;order g 1 1");
        c.at(KG + "door ^g 0 0");
        c.at(KG + "pallet ^k");
        c.at(KG + "order ^k 1 1");
        c.at(KG + "door ^h 0 0");
        c.at(KG + "pallet ^h");
        c.at(KG + "order ^h 1 1");
        c.at("door ^k 0 0;" + KG + "quay 1");
        c.at("pallet ^g;" + KG + "quay 1");
        c.at("order ^g 1 1;" + KG + "quay 1");
        ColdStores x = Checks.loaded("goods g 0 1 1 0 0;chamber k 1 1 0");
        Checks.feed(x, "pallet g");
        c.same("names of an earlier text do not count", x.errorPosition(), 7);
    }

    static void rangesOfNumbers() {
        c.about(SECTION, RANGES);
        c.valid("chamber k 1 1 -30;chamber l 6 4 20;goods g -30 20 1 0 0;goods h 20 20 60 9 9;order g 1 0;"
                + "order g 9 365;limits 0 999;quay 40");
        for (String text : new String[] {"chamber k ^0 1 0", "chamber k ^7 1 0", "chamber k 1 ^0 0",
            "chamber k 1 ^5 0", "chamber k 1 1 ^21", "chamber k 1 1 -^31", "goods g -^31 0 1 0 0",
            "goods g 0 ^21 1 0 0", "goods g 1 ^0 1 0 0", "goods g 0 1 ^0 0 0", "goods g 0 1 ^61 0 0",
            "goods g 0 1 1 ^10 0", "goods g 0 1 1 0 ^10", KG + "order g ^0 0", KG + "order g ^10 0",
            KG + "order g 1 ^366", "limits ^1000 0", "limits 0 ^1000", "quay -^31", "quay ^41"}) {
            c.at(text);
        }
    }

    static void rowsAndColumnsOfDoors() {
        c.about(SECTION, RANGES);
        c.valid(KG + "door k 0 0;door k 1 2");
        c.at(KG + "door k ^2 0");
        c.at(KG + "door k 0 ^3");
        String two = "chamber k 1 1 0;chamber l 6 4 0;";
        c.valid(two + "door k 0 0;door l 5 3");
        c.at(two + "door k ^1 0");
        c.at(two + "door k 0 ^1");
        c.at(two + "door l ^6 0");
        c.at(two + "door l 0 ^4");
    }

    static void eightPalletStatements() {
        c.about(SECTION, "There are at most 8 pallet statements.");
        c.same("8", Checks.loaded("goods g 0 1 1 0 0" + times(8, ";pallet g")).waitingCount(), 8);
        c.at("goods g 0 1 1 0 0" + times(8, ";pallet g") + ";^pallet g");
        c.at("goods g 0 1 1 0 0" + times(8, ";pallet g") + ";quay 1;^pallet");
    }

    static void firstErrorOfATwo() {
        c.about(SECTION, POSITION);
        c.at("limits ^1000 1000;quay 99");
        c.at("quay 1;limits 1 ^a;foo");
        c.at("^quai 1;quay 99");
        c.error(" " + times(3, " ") + "x", 4);
    }

    /** After every token of every statement the text may end too early. */
    static void textsThatEndTooEarly() {
        c.about(SECTION, POSITION);
        String[] statements = {"chamber a 2 2 - 4", "goods b - 9 - 5 1 0 0", "door a 0 0", "pallet b", "order b 1 9",
            "limits 5 5", "quay - 3"};
        StringBuilder text = new StringBuilder();
        for (String statement : statements) {
            for (String token : statement.split(" ")) {
                c.error(text.toString(), text.length());
                c.error(text + "   ", text.length() + 3);
                text.append(token).append(" ");
            }
            c.valid(text.toString());
            text.append(";");
        }
        c.error(text.toString(), text.length());
    }

    static void endOfAFullBuffer() {
        c.about(SECTION, POSITION);
        c.error("quay" + times(896, " "), 900);
        c.error("quay" + times(895, " ") + "-", 900);
        c.valid("quay" + times(895, " ") + "1");
        c.error("quay" + times(895, " ") + "a", 899);
        c.error("quay 1" + times(893, " ") + ";", 900);
    }

    static void tokenThatNoStatementHas() {
        c.about(SECTION, NOT_ACCEPTED);
        c.at("^1");
        c.at("^-");
        c.at("^quays 1");
        c.at("^qua 1");
        c.at("quay ^;");
        c.at("quay 1 ^2");
        c.at("quay 1 ^limits");
        c.at("quay 1;^1");
    }

    static void numberOfMoreThanFourDigits() {
        c.about(SECTION, NOT_ACCEPTED);
        c.at(KG + "order g ^00001 1");
        c.at("quay ^00001");
        c.at("quay ^4294967297");
        c.at("limits ^" + times(800, "0") + " 1");
        c.at("^00001");
        c.at("quay 1 ^00001");
    }

    static void numberOutOfItsRange() {
        c.about(SECTION, NOT_ACCEPTED);
        c.at("quay ^9999");
        c.at("quay -^9999");
        c.at("quay ^41");
        c.at("quay - ^31");
        c.at("limits 0 ^1000");
    }

    static void nameThatIsWrong() {
        c.about(SECTION, NOT_ACCEPTED);
        c.at("chamber ^quay 1 1 0");
        c.at("chamber ^toolong 1 1 0");
        c.at(KG + "door ^x 0 0");
        c.at(KG + "door ^quay 0 0");
        c.at(KG + "door ^g 0 0");
        c.at(KG + "pallet ^k");
        c.at(KG + "pallet ^toolong");
    }

    static void tooManyChambers() {
        c.about(SECTION, TOO_MANY);
        String full = "chamber a 1 1 0;chamber b 1 1 0;chamber c 1 1 0";
        c.valid(full);
        c.at(full + ";^chamber d 1 1 0");
        c.at(full + " ; ^chamber");
        c.at(full + ";quay 1;^chamber a 9");
    }

    static void tooManyGoods() {
        c.about(SECTION, TOO_MANY);
        StringBuilder full = new StringBuilder("goods a 0 1 1 0 0");
        for (char name = 'b'; name <= 'f'; name++) {
            full.append(";goods ").append(name).append(" 0 1 1 0 0");
        }
        c.valid(full.toString());
        c.at(full + ";^goods g 0 1 1 0 0");
        c.at(full + ";^goods");
    }

    static void tooManyPallets() {
        c.about(SECTION, TOO_MANY);
        String full = KG + "pallet g" + times(7, ";pallet g");
        c.valid(full);
        c.at(full + ";^pallet g");
        c.at(full + ";^pallet x");
    }

    static void tooManyOrders() {
        c.about(SECTION, TOO_MANY);
        String full = KG + "order g 1 1" + times(9, ";order g 1 1");
        c.valid(full);
        c.at(full + ";^order g 1 1");
        c.at(full + ";^order x");
    }

    static void tooManyLimitsOrQuays() {
        c.about(SECTION, TOO_MANY);
        c.at("limits 1 1; ^limits x");
        c.at("quay 1; ^quay x");
    }

    static void noNumberOfDoorsIsTooMany() {
        c.about(SECTION, TOO_MANY);
        c.valid("chamber k 1 1 0" + times(80, ";door k 0 0"));
    }

    // ---- promise 1

    static void newObject() {
        c.about("Promise 1", "Creates a quay without chambers, goods, pallets and orders, on day 0, with an empty"
                + " input buffer.");
        ColdStores x = new ColdStores();
        c.same("chamberCount", x.chamberCount(), 0);
        c.same("goodsCount", x.goodsCount(), 0);
        c.same("palletCount", x.palletCount(), 0);
        c.same("orderCount", x.orderCount(), 0);
        c.same("currentDay", x.currentDay(), 0);
        c.same("the buffer's length", x.truncate(0), 0);
        c.badArgument("the buffer is empty", () -> x.truncate(1));
        c.numbers("setpoint", 0, x::setpoint);
        c.numbers("arrive", 0, x::arrive);
        c.numbers("ship", 0, x::ship);
        c.numbers("serve", 0, x::serve);
    }

    // ---- promise 2

    static void bytesOfAWord() {
        c.about("Promise 2", "Each parameter holds four bytes, the most significant byte first.");
        ColdStores x = new ColdStores();
        c.same("append", x.append(0x71756179, 0x20343b6c, 0x696d6974, 0x73203120, 0x32000000), 17);
        x.load();
        c.sameText("the text", Checks.textOf(x), "limits 1 2;quay 4");
    }

    static void zeroBytes() {
        c.about("Promise 2", "Bytes with the value 0 are skipped.");
        ColdStores x = new ColdStores();
        c.same("only zeros", x.append(0, 0, 0, 0, 0), 0);
        c.same("some zeros", x.append(0x00710075, 0x61007900, 0, 0x00000020, 0x34000000), 6);
        c.same("errorPosition", x.errorPosition(), -1);
    }

    static void bytesAbove127() {
        c.about("Promise 2", "Appends bytes to the input buffer.");
        ColdStores x = new ColdStores();
        c.same("append", x.append(-1, 0x80808080, Integer.MIN_VALUE, 0x7fffffff, 0x000000ff), 4 + 4 + 1 + 4 + 1);
        c.same("errorPosition", x.errorPosition(), 0);
    }

    /** The four bytes of one parameter stand at their place in the 20 of a call, and alone as well. */
    private static void place(String words, int place) {
        c.about("Promise 2", words);
        int[] spaces = {0x20202020, 0x20202020, 0x20202020, 0x20202020, 0x20202020};
        spaces[place] = 0x71756179;
        c.same("the word quay and what is missing behind it", errorOf(spaces), 20);
        spaces[place] = 0x20207121;
        c.same("a wrong word", errorOf(spaces), 4 * place + 2);
        int[] zeros = new int[5];
        zeros[place] = 0x71756179;
        c.same("the word quay alone", errorOf(zeros), 4);
        zeros[place] = 0x00007821;
        c.same("a wrong word alone", errorOf(zeros), 0);
    }

    private static int errorOf(int[] words) {
        ColdStores x = new ColdStores();
        x.append(words[0], words[1], words[2], words[3], words[4]);
        return x.errorPosition();
    }

    static void firstWord() {
        place("- a: bytes 0 to 3", 0);
    }

    static void secondWord() {
        place("- b: bytes 4 to 7", 1);
    }

    static void thirdWord() {
        place("- c: bytes 8 to 11", 2);
    }

    static void fourthWord() {
        place("- d: bytes 12 to 15", 3);
    }

    static void fifthWord() {
        place("- e: bytes 16 to 19", 4);
    }

    static void lengthAfterAppend() {
        c.about("Promise 2", "Returns the new length of the buffer.");
        ColdStores x = new ColdStores();
        c.same("nothing", x.append(0, 0, 0, 0, 0), 0);
        c.same("one", x.append(0, 0, 0, 0, 1), 1);
        c.same("twenty", x.append(-1, -1, -1, -1, -1), 21);
        c.same("nothing more", x.append(0, 0, 0, 0, 0), 21);
    }

    private static ColdStores filled(int length) {
        ColdStores x = new ColdStores();
        for (int i = 0; i < 45; i++) {
            x.append(0x20202020, 0x20202020, 0x20202020, 0x20202020, 0x20202020);
        }
        x.truncate(length);
        return x;
    }

    static void fullBuffer() {
        c.about("Promise 2", TOO_LONG);
        ColdStores x = filled(900);
        c.same("900", x.append(0, 0, 0, 0, 0), 900);
        for (int shift = 0; shift < 32; shift += 8) {
            int one = 1 << shift;
            c.badState("a byte of a", x, () -> x.append(one, 0, 0, 0, 0));
            c.badState("a byte of b", x, () -> x.append(0, one, 0, 0, 0));
            c.badState("a byte of c", x, () -> x.append(0, 0, one, 0, 0));
            c.badState("a byte of d", x, () -> x.append(0, 0, 0, one, 0));
            c.badState("a byte of e", x, () -> x.append(0, 0, 0, 0, one));
        }
        c.same("still 900", x.truncate(900), 900);
    }

    static void almostFullBuffer() {
        c.about("Promise 2", TOO_LONG);
        for (int room = 0; room < 20; room++) {
            ColdStores x = filled(900 - room);
            int[] words = words(room + 1);
            c.badState("a byte too many", () -> x.append(words[0], words[1], words[2], words[3], words[4]));
            c.same("nothing was appended", x.errorPosition(), 900 - room);
            c.same("nothing was appended", x.append(0, 0, 0, 0, 0), 900 - room);
            int[] fit = words(room);
            c.same("just as many", x.append(fit[0], fit[1], fit[2], fit[3], fit[4]), 900);
        }
    }

    /** Words with so many bytes that are not 0. */
    private static int[] words(int bytes) {
        int[] words = new int[5];
        for (int i = 0; i < bytes; i++) {
            words[4 - i / 4] |= 0x61 << 8 * (i % 4);
        }
        return words;
    }

    // ---- promise 3

    static void newLength() {
        c.about("Promise 3", "- length: the new length");
        ColdStores x = filled(900);
        c.same("the same", x.truncate(900), 900);
        c.same("one less", x.truncate(899), 899);
        c.same("nothing", x.truncate(0), 0);
        c.same("nothing of nothing", x.truncate(0), 0);
    }

    static void answeredLength() {
        c.about("Promise 3", "Returns the new length.");
        ColdStores x = filled(20);
        c.same("truncate", x.truncate(7), 7);
        c.same("the length", x.append(0, 0, 0, 0, 0), 7);
        c.same("what was cut off does not come back", x.errorPosition(), 7);
    }

    static void wrongLength() {
        c.about("Promise 3", "Throws IllegalArgumentException if length is negative or greater than the present"
                + " length");
        ColdStores x = filled(5);
        for (int wrong : new int[] {-1, Integer.MIN_VALUE, 6, 900, 901, Integer.MAX_VALUE}) {
            c.badArgument("truncate to " + wrong, x, () -> x.truncate(wrong));
        }
        ColdStores y = new ColdStores();
        c.badArgument("1 of nothing", y, () -> y.truncate(1));
        c.badArgument("-1 of nothing", y, () -> y.truncate(-1));
    }

    // ---- promise 4

    static void errorOrNone() {
        c.about("Promise 4", "Returns the error position; NONE if the text is valid.");
        c.error("quay 1", ColdStores.NONE);
        c.error("", 0);
        c.error("quay", 4);
        c.error("^quay", 0);
        ColdStores x = Checks.loaded("quay 1");
        c.same("nothing is left after load", x.errorPosition(), 0);
    }

    static void checkingChangesNothing() {
        c.about("Promise 4", "Checks the input buffer as a text (section 7).");
        ColdStores x = Checks.loaded("chamber k 1 1 5;goods g 0 1 1 0 0;pallet g;order g 1 1;limits 1 1;quay 9");
        String before = Checks.present(x);
        Checks.feed(x, "chamber l 2 2 0;goods h 5 6 7 8 9;limits 9 9;quay 3;door l 0 0;pallet h;order h 2 2");
        c.same("errorPosition", x.errorPosition(), -1);
        c.sameText("the object", Checks.present(x), before);
        c.same("shelfLife", x.shelfLife(0), 1);
    }

    // ---- promise 5

    static void loadReplacesEverything() {
        c.about("Promise 5", "Replaces everything by the text in the input buffer.");
        ColdStores x = Checks.loaded("chamber k 1 1 5;door k 0 0;goods g 0 1 1 0 0;pallet g;order g 1 1;limits 1 1;"
                + "quay 9");
        Checks.feed(x, "limits 100 10");
        c.same("load", x.load(), 0);
        c.same("chamberCount", x.chamberCount(), 0);
        c.same("goodsCount", x.goodsCount(), 0);
        c.same("palletCount", x.palletCount(), 0);
        c.same("orderCount", x.orderCount(), 0);
        c.sameText("the text", Checks.textOf(x), "");
    }

    static void loadOfFewer() {
        c.about("Promise 5", "Replaces everything by the text in the input buffer.");
        ColdStores x = Checks.loaded("chamber k 2 2 5;door k 0 0;chamber l 2 2 5;door l 0 0;chamber m 2 2 5;door m 0 0;"
                + "goods g 0 9 1 9 0;goods h 0 9 1 0 0;pallet g;pallet h;order g 1 1;order g 1 1");
        x.autoStore();
        Checks.feed(x, "chamber m 1 1 5;door m 0 0;goods h 0 9 1 0 0;pallet h;pallet h;order h 1 1");
        x.load();
        c.numbers("setpoint", 1, x::setpoint);
        c.numbers("shelfLife", 1, x::shelfLife);
        c.numbers("heat", 2, x::heat);
        c.numbers("availableFor", 1, x::availableFor);
        c.same("only into the new chamber", x.autoStore(), 1);
        c.same("no cell is left", x.autoStore(), 0);
        c.same("chamberOf", x.chamberOf(0), 0);
    }

    static void loadBeginsAgain() {
        c.about("Promise 5", "The current day is 0, the pallets of the text are waiting in the order of their"
                + " statements, no door was opened, and nothing was shipped or discarded.");
        String text = "chamber k 1 2 5;door k 0 0;goods g 0 20 60 0 0;goods h 0 20 60 0 0;pallet h;pallet g;pallet h";
        ColdStores x = Checks.loaded(text);
        String first = Checks.present(x);
        x.advance(3);
        x.store(0, 0, 0, 1);
        x.ship(1);
        x.discard(2);
        Checks.feed(x, text);
        x.load();
        c.same("currentDay", x.currentDay(), 0);
        c.same("goods of the first", x.goodsOf(x.waitingPallet(0)), 1);
        c.same("goods of the second", x.goodsOf(x.waitingPallet(1)), 0);
        c.same("openings", x.openings(0), 0);
        c.same("shippedCount", x.shippedCount(), 0);
        c.same("discardedCount", x.discardedCount(), 0);
        c.sameText("all as at first", Checks.present(x), first);
    }

    static void loadRemovesTheHistory() {
        c.about("Promise 5", "The undo history and the saved copy are removed.");
        ColdStores x = Checks.loaded("quay 1");
        x.advance(1);
        x.save();
        Checks.feed(x, "quay 2");
        x.load();
        c.same("undoCount", x.undoCount(), 0);
        c.badState("undo", x, x::undo);
        c.badState("restore", x, x::restore);
        x.advance(2);
        x.undo();
        c.badState("no older change", x, x::undo);
    }

    static void loadEmptiesTheBuffer() {
        c.about("Promise 5", "On success the input buffer becomes empty.");
        ColdStores x = Checks.loaded("quay 1");
        c.same("its length", x.append(0, 0, 0, 0, 0), 0);
        c.badArgument("truncate", x, () -> x.truncate(1));
        c.same("errorPosition", x.errorPosition(), 0);
        Checks.feed(x, "quay 2");
        c.same("the next text", x.errorPosition(), -1);
    }

    static void palletsOfTheText() {
        c.about("Promise 5", "Returns the number of pallets.");
        String goods = "goods g 0 1 1 0 0";
        for (int i = 0; i <= 8; i++) {
            ColdStores x = new ColdStores();
            Checks.feed(x, goods + times(i, ";pallet g"));
            c.same("load", x.load(), i);
            c.same("palletCount", x.palletCount(), i);
        }
    }

    static void loadOfAWrongText() {
        c.about("Promise 5", "Throws IllegalArgumentException if the text is not valid (the input buffer is kept)");
        ColdStores x = Checks.loaded(KG + "pallet g;limits 5 5");
        x.advance(1);
        x.save();
        c.badArgument("an empty text", x, x::load);
        Checks.feed(x, "chamber z 1 1 1;quay");
        c.badArgument("a text that ends too early", x, x::load);
        c.same("the buffer", x.errorPosition(), 20);
        Checks.feed(x, " 41");
        c.badArgument("a number out of range", x, x::load);
        c.same("the buffer", x.truncate(22), 22);
        c.same("the copy is kept", x.restore(), 1);
        c.same("mended", x.load(), 0);
    }

    // ---- promises 56 and 57

    static void lengthOfTheText() {
        c.about("Promise 56", "Returns the number of bytes.");
        c.same("nothing", new ColdStores().textLength(), 0);
        c.same("one statement", Checks.loaded("quay 1").textLength(), 6);
        c.same("two statements", Checks.loaded("quay 1;limits 1 1").textLength(), 17);
    }

    static void presentSetpoints() {
        c.about("Promise 56", WRITTEN);
        ColdStores x = Checks.loaded("chamber k 1 1 0;chamber a 6 4 5");
        x.setSetpoint(0, -30);
        x.setSetpoint(1, 20);
        c.sameText("the text", Checks.textOf(x), "chamber k 1 1 -30;chamber a 6 4 20");
    }

    static void doorsInOrder() {
        c.about("Promise 56", WRITTEN);
        c.sameText("the text", Checks.textOf(Checks.loaded("chamber k 2 2 0;chamber a 1 2 0;door a 0 1;door k 1 1;"
                + "door k 1 0;door k 0 1;door a 0 0")), "chamber k 2 2 0;chamber a 1 2 0;door k 0 1;door k 1 0;"
                + "door k 1 1;door a 0 0;door a 0 1");
    }

    static void waitingPalletsOnly() {
        c.about("Promise 56", WRITTEN);
        String setup = "chamber k 1 1 0;door k 0 0;goods a 0 1 1 0 0;goods b 0 1 1 0 0";
        ColdStores x = Checks.loaded(setup + ";pallet a;pallet b;pallet a;pallet a");
        x.store(0, 0, 0, 0);
        x.ship(2);
        x.discard(3);
        c.sameText("only one", Checks.textOf(x), setup + ";pallet b");
        x.retrieve(0);
        c.sameText("the retrieved one last", Checks.textOf(x), setup + ";pallet b;pallet a");
        x.ship(0);
        x.ship(1);
        c.sameText("none", Checks.textOf(x), setup);
    }

    static void ordersNotServed() {
        c.about("Promise 56", WRITTEN);
        String setup = "goods a 0 1 1 0 0";
        ColdStores x = Checks.loaded(setup + ";pallet a;pallet a;order a 1 365;order a 1 0;order a 9 1");
        x.serve(0);
        c.sameText("two", Checks.textOf(x), setup + ";pallet a;order a 1 0;order a 9 1");
        x.serve(1);
        c.sameText("one", Checks.textOf(x), setup + ";order a 9 1");
        x.advance(2);
        c.sameText("a late one too", Checks.textOf(x), setup + ";order a 9 1");
    }

    static void limitsIfNotUsual() {
        c.about("Promise 56", WRITTEN);
        c.sameText("the usual ones", Checks.textOf(Checks.loaded("limits 100 10")), "");
        c.sameText("another heat limit", Checks.textOf(Checks.loaded("limits 101 10")), "limits 101 10");
        c.sameText("another taint limit", Checks.textOf(Checks.loaded("limits 100 9")), "limits 100 9");
        c.sameText("the other way round", Checks.textOf(Checks.loaded("limits 10 100")), "limits 10 100");
        c.sameText("the least", Checks.textOf(Checks.loaded("limits 0000 0")), "limits 0 0");
    }

    static void quayIfNotUsual() {
        c.about("Promise 56", WRITTEN);
        c.sameText("the usual one", Checks.textOf(Checks.loaded("quay 12")), "");
        c.sameText("11", Checks.textOf(Checks.loaded("quay 0011")), "quay 11");
        c.sameText("13", Checks.textOf(Checks.loaded("quay 13")), "quay 13");
        c.sameText("-12", Checks.textOf(Checks.loaded("quay - 12")), "quay -12");
        c.sameText("-0", Checks.textOf(Checks.loaded("quay -0")), "quay 0");
    }

    static void spacesAndSemicolons() {
        c.about("Promise 56", "There is one space between two tokens of a statement, but none between a sign - and its"
                + " number, and a semicolon without spaces between two statements.");
        c.sameText("the text", Checks.textOf(Checks.loaded(" goods  b  -  30  -  1  60  9  9 ;  chamber ab6 4-9 ;  "
                + "quay-7 ; pallet   b ; door  ab  5   3")),
                "chamber ab 6 4 -9;door ab 5 3;goods b -30 -1 60 9 9;pallet b;quay -7");
    }

    static void positions() {
        c.about("Promise 57", "- position: index of a byte, from 0 on");
        ColdStores x = Checks.loaded("quay -1");
        c.same("the first", x.textByte(0), 'q');
        c.same("the last", x.textByte(6), '1');
    }

    static void bytes() {
        c.about("Promise 57", "Returns the byte.");
        ColdStores x = Checks.loaded("limits 0 9;quay -1");
        c.same("a letter", x.textByte(0), 108);
        c.same("a space", x.textByte(6), 32);
        c.same("0", x.textByte(7), 48);
        c.same("9", x.textByte(9), 57);
        c.same("a semicolon", x.textByte(10), 59);
        c.same("a sign", x.textByte(16), 45);
    }

    static void noSuchByte() {
        c.about("Promise 57", "Throws IndexOutOfBoundsException if there is no such byte");
        ColdStores none = new ColdStores();
        c.numbers("textByte of an empty text", 0, none::textByte);
        ColdStores x = Checks.loaded("quay 1");
        c.numbers("textByte", 6, x::textByte);
        c.noIndex("textByte", x, () -> x.textByte(6));
    }
}
