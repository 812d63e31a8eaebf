import java.util.Arrays;
import java.util.NoSuchElementException;

/** A manager for cold stores on a quay; the document DOC.md says what each call does. */
public final class ColdStores {
    /** There is no such result. */
    public static final int NONE = -1;

    private static final int MOST_BYTES = 900;
    private static final int MOST_GOODS = 6;
    private static final int MOST_CHAMBERS = 3;
    private static final int MOST_ROWS = 6;
    private static final int MOST_COLUMNS = 4;
    private static final int MOST_CELLS = 24;
    private static final int MOST_PALLETS = 40;
    private static final int MOST_WAITING = 8;
    private static final int MOST_ORDERS = 10;
    private static final int MOST_UNDONE = 8;
    private static final int MOST_NIGHTS_AT_ONCE = 60;
    private static final int MOST_NIGHTS_AHEAD = 100;
    private static final int MOST_OPENINGS_ASKED = 99;
    private static final int LAST_DAY = 365;

    private static final int COLDEST = -30;
    private static final int WARMEST = 20;
    private static final int WARMEST_QUAY = 40;

    private static final int USUAL_HEAT_LIMIT = 100;
    private static final int USUAL_TAINT_LIMIT = 10;
    private static final int USUAL_QUAY = 12;

    private static final int WAITING = 0;
    private static final int STORED = 1;
    private static final int SHIPPED = 2;
    private static final int DISCARDED = 3;

    private static final int NO_PROBLEM = 0;
    private static final int NOT_WAITING = 1;
    private static final int NOT_FREE = 2;
    private static final int WOULD_TAINT = 3;
    private static final int NO_WAY = 4;

    private static final String CHAMBER = "chamber";
    private static final String DOOR = "door";
    private static final String GOODS = "goods";
    private static final String PALLET = "pallet";
    private static final String ORDER = "order";
    private static final String LIMITS = "limits";
    private static final String QUAY = "quay";

    private final Row buffer;
    private int length;
    private final Parser parser;
    private final TextWriter writer;
    private final Setup setup;
    private final Setup draft;
    private final Stock stock;
    private final Stock trial;
    private final Stock saved;
    private boolean hasSaved;
    private final History history;
    private final PairCounter pairs;

    /** Makes a quay without chambers, goods, pallets and orders. */
    public ColdStores() {
        buffer = new Row(MOST_BYTES);
        parser = new Parser(buffer);
        writer = new TextWriter();
        setup = new Setup();
        draft = new Setup();
        stock = new Stock(setup);
        trial = new Stock(setup);
        saved = new Stock(setup);
        history = new History(setup);
        pairs = new PairCounter();
    }

    // ---- Input

    public int append(int a, int b, int c, int d, int e) throws IllegalStateException {
        int more = byteCount(a) + byteCount(b) + byteCount(c) + byteCount(d) + byteCount(e);
        if (length + more > MOST_BYTES) {
            throw new IllegalStateException("the buffer would be too long");
        }
        addBytes(a);
        addBytes(b);
        addBytes(c);
        addBytes(d);
        addBytes(e);
        return length;
    }

    public int truncate(int length) throws IllegalArgumentException {
        if (length < 0 || length > this.length) {
            throw new IllegalArgumentException("not a length up to the present one");
        }
        this.length = length;
        return length;
    }

    public int errorPosition() {
        return parser.firstError(length, draft);
    }

    public int load() throws IllegalArgumentException {
        if (parser.firstError(length, draft) != NONE) {
            throw new IllegalArgumentException("the text is not valid");
        }
        parser.firstError(length, setup);
        stock.begin();
        history.clear();
        hasSaved = false;
        length = 0;
        return stock.palletCount;
    }

    // ---- Changes

    public int arrive(int goods) throws IndexOutOfBoundsException, IllegalStateException {
        checkGoods(goods);
        if (stock.palletCount >= MOST_PALLETS || stock.waitingCount >= MOST_WAITING) {
            throw new IllegalStateException("too many pallets");
        }
        history.keep(stock);
        return stock.bring(goods);
    }

    public int store(int pallet, int chamber, int row, int column)
            throws IndexOutOfBoundsException, IllegalArgumentException, IllegalStateException {
        checkPallet(pallet);
        checkChamber(chamber);
        int cell = checkedCell(chamber, row, column);
        if (problem(pallet, chamber, cell) != NO_PROBLEM) {
            throw new IllegalStateException("the pallet cannot be stored there");
        }
        int way = stock.wayTo(chamber, cell);
        history.keep(stock);
        stock.putIn(pallet, chamber, cell);
        return way;
    }

    public int retrieve(int pallet) throws IndexOutOfBoundsException, IllegalStateException {
        checkPallet(pallet);
        if (stock.states.get(pallet) != STORED || stock.waitingCount >= MOST_WAITING) {
            throw new IllegalStateException("the pallet is not stored or the quay is full");
        }
        int way = stock.wayTo(stock.chambers.get(pallet), stock.cells.get(pallet));
        if (way == NONE) {
            throw new IllegalStateException("there is no way to the pallet");
        }
        history.keep(stock);
        stock.takeOut(pallet);
        stock.states.set(pallet, WAITING);
        stock.queueUp(pallet);
        return way;
    }

    public int shift(int pallet, int row, int column)
            throws IndexOutOfBoundsException, IllegalArgumentException, IllegalStateException {
        checkPallet(pallet);
        if (stock.states.get(pallet) != STORED) {
            throw new IllegalStateException("the pallet is not stored");
        }
        int chamber = stock.chambers.get(pallet);
        int cell = checkedCell(chamber, row, column);
        if (!has(stock.safeIn(chamber, stock.goods.get(pallet)), cell)) {
            throw new IllegalStateException("the cell is not free or not safe");
        }
        int moves = movesTo(pallet, chamber, cell);
        if (moves == NONE) {
            throw new IllegalStateException("the cell cannot be reached");
        }
        history.keep(stock);
        stock.moveTo(pallet, cell);
        return moves;
    }

    public int ship(int pallet) throws IndexOutOfBoundsException, IllegalStateException {
        checkPallet(pallet);
        if (stock.states.get(pallet) != WAITING || stock.spoiled(pallet)) {
            throw new IllegalStateException("the pallet is not waiting or is spoiled");
        }
        history.keep(stock);
        stock.finish(pallet, SHIPPED);
        return stock.countIn(SHIPPED);
    }

    public int discard(int pallet) throws IndexOutOfBoundsException, IllegalStateException {
        checkPallet(pallet);
        if (stock.states.get(pallet) != WAITING) {
            throw new IllegalStateException("the pallet is not waiting");
        }
        history.keep(stock);
        stock.finish(pallet, DISCARDED);
        return stock.countIn(DISCARDED);
    }

    public int autoStore() {
        trial.copy(stock);
        int storedPallets = 0;
        for (int i = 0; i < stock.waitingCount; i++) {
            if (storeBest(stock.waiting.get(i))) {
                storedPallets++;
            }
        }
        if (storedPallets > 0) {
            acceptTrial();
        }
        return storedPallets;
    }

    public int serve(int order) throws IndexOutOfBoundsException, IllegalStateException {
        checkOrder(order);
        if (stock.served.get(order) != 0 || stock.day > setup.orderDays.get(order)) {
            throw new IllegalStateException("the order was served or is late");
        }
        int wanted = setup.orderPallets.get(order);
        trial.copy(stock);
        if (takeFor(setup.orderGoods.get(order), wanted) < wanted) {
            throw new IllegalStateException("there are not enough pallets");
        }
        int fromChambers = stock.countIn(STORED) - trial.countIn(STORED);
        trial.served.set(order, 1);
        acceptTrial();
        return fromChambers;
    }

    public int setSetpoint(int chamber, int temperature)
            throws IndexOutOfBoundsException, IllegalArgumentException {
        checkChamber(chamber);
        if (temperature < COLDEST || temperature > WARMEST) {
            throw new IllegalArgumentException("the temperature is out of range");
        }
        int before = stock.setpoints.get(chamber);
        history.keep(stock);
        stock.setpoints.set(chamber, temperature);
        return before;
    }

    public int advance(int days) throws IllegalArgumentException {
        if (days < 1 || days > MOST_NIGHTS_AT_ONCE || stock.day > LAST_DAY - days) {
            throw new IllegalArgumentException("not that many days");
        }
        history.keep(stock);
        int before = stock.countSpoiled();
        stock.passNights(days);
        return stock.countSpoiled() - before;
    }

    // ---- Contents

    public int chamberCount() {
        return setup.chamberCount;
    }

    public int goodsCount() {
        return setup.goodsCount;
    }

    public int palletCount() {
        return stock.palletCount;
    }

    public int orderCount() {
        return setup.orderCount;
    }

    public int currentDay() {
        return stock.day;
    }

    public int waitingCount() {
        return stock.waitingCount;
    }

    public int waitingPallet(int index) throws IndexOutOfBoundsException {
        if (index < 0 || index >= stock.waitingCount) {
            throw new IndexOutOfBoundsException("no such waiting pallet");
        }
        return stock.waiting.get(index);
    }

    public int order(int order, int what)
            throws IndexOutOfBoundsException, IllegalArgumentException {
        checkOrder(order);
        switch (what) {
            case 0:
                return setup.orderGoods.get(order);
            case 1:
                return setup.orderPallets.get(order);
            case 2:
                return setup.orderDays.get(order);
            case 3:
                return stock.served.get(order);
            default:
                throw new IllegalArgumentException("no such property");
        }
    }

    public int shippedCount() {
        return stock.countIn(SHIPPED);
    }

    public int discardedCount() {
        return stock.countIn(DISCARDED);
    }

    // ---- Goods

    public int lowestTemperature(int goods) throws IndexOutOfBoundsException {
        checkGoods(goods);
        return setup.goodsAt(goods).lowest;
    }

    public int highestTemperature(int goods) throws IndexOutOfBoundsException {
        checkGoods(goods);
        return setup.goodsAt(goods).highest;
    }

    public int shelfLife(int goods) throws IndexOutOfBoundsException {
        checkGoods(goods);
        return setup.goodsAt(goods).life;
    }

    public boolean taints(int goods, int other) throws IndexOutOfBoundsException {
        checkGoods(goods);
        checkGoods(other);
        return setup.goodsAt(goods).soils(setup.goodsAt(other));
    }

    public int zonesNeeded() {
        int zones = 0;
        int temperature = COLDEST - 1;
        while (zones < setup.goodsCount && setup.hasZoneAbove(temperature)) {
            temperature = setup.zoneAbove(temperature);
            zones++;
        }
        return zones;
    }

    public int zoneTemperature(int index) throws IndexOutOfBoundsException {
        if (index < 0 || index >= zonesNeeded()) {
            throw new IndexOutOfBoundsException("no such zone");
        }
        int temperature = COLDEST - 1;
        for (int zone = 0; zone <= index; zone++) {
            temperature = setup.zoneAbove(temperature);
        }
        return temperature;
    }

    // ---- Pallets

    public int goodsOf(int pallet) throws IndexOutOfBoundsException {
        checkPallet(pallet);
        return stock.goods.get(pallet);
    }

    public int stateOf(int pallet) throws IndexOutOfBoundsException {
        checkPallet(pallet);
        return stock.states.get(pallet);
    }

    public int chamberOf(int pallet) throws IndexOutOfBoundsException {
        checkPallet(pallet);
        return stock.chambers.get(pallet);
    }

    public int cellOf(int pallet) throws IndexOutOfBoundsException {
        checkPallet(pallet);
        if (stock.states.get(pallet) != STORED) {
            return NONE;
        }
        int columns = setup.chamberAt(stock.chambers.get(pallet)).columns;
        int cell = stock.cells.get(pallet);
        return columns > 0 ? 10 * (cell / columns) + cell % columns : NONE;
    }

    public int arrivalDay(int pallet) throws IndexOutOfBoundsException {
        checkPallet(pallet);
        return stock.arrivals.get(pallet);
    }

    public int heat(int pallet) throws IndexOutOfBoundsException {
        checkPallet(pallet);
        return stock.heats.get(pallet);
    }

    public int taint(int pallet) throws IndexOutOfBoundsException {
        checkPallet(pallet);
        return stock.taintings.get(pallet);
    }

    public boolean isSpoiled(int pallet) throws IndexOutOfBoundsException {
        checkPallet(pallet);
        return stock.spoiled(pallet);
    }

    public int daysLeft(int pallet)
            throws IndexOutOfBoundsException, IllegalStateException, NoSuchElementException {
        checkPallet(pallet);
        if (!stock.present(pallet)) {
            throw new IllegalStateException("the pallet was shipped or discarded");
        }
        trial.copy(stock);
        for (int nights = 0; nights <= MOST_NIGHTS_AHEAD; nights++) {
            if (trial.spoiled(pallet)) {
                return nights;
            }
            trial.passNights(1);
        }
        throw new NoSuchElementException("the pallet is not spoiled that soon");
    }

    public int spoiledCount() {
        return stock.countSpoiled();
    }

    public int spoilsWithin(int nights) throws IllegalArgumentException {
        if (nights < 1 || nights > MOST_NIGHTS_AHEAD) {
            throw new IllegalArgumentException("not that many nights");
        }
        trial.copy(stock);
        trial.passNights(nights);
        return trial.countSpoiled() - stock.countSpoiled();
    }

    // ---- Chambers

    public int setpoint(int chamber) throws IndexOutOfBoundsException {
        checkChamber(chamber);
        return stock.setpoints.get(chamber);
    }

    public int temperature(int chamber) throws IndexOutOfBoundsException {
        checkChamber(chamber);
        return stock.tenthsIn(chamber);
    }

    public int temperatureAfter(int chamber, int openings)
            throws IndexOutOfBoundsException, IllegalArgumentException {
        checkChamber(chamber);
        if (openings < 0 || openings > MOST_OPENINGS_ASKED) {
            throw new IllegalArgumentException("not that many openings");
        }
        return 10 * stock.setpoints.get(chamber) + stock.warmingAfter(chamber, openings);
    }

    public int openings(int chamber) throws IndexOutOfBoundsException {
        checkChamber(chamber);
        return stock.openings.get(chamber);
    }

    public int palletAt(int chamber, int row, int column)
            throws IndexOutOfBoundsException, IllegalArgumentException {
        checkChamber(chamber);
        return stock.palletIn(chamber, checkedCell(chamber, row, column));
    }

    public int storeProblem(int pallet, int chamber, int row, int column)
            throws IndexOutOfBoundsException, IllegalArgumentException {
        checkPallet(pallet);
        checkChamber(chamber);
        return problem(pallet, chamber, checkedCell(chamber, row, column));
    }

    public int wayLength(int chamber, int row, int column)
            throws IndexOutOfBoundsException, IllegalArgumentException, NoSuchElementException {
        checkChamber(chamber);
        int cell = checkedCell(chamber, row, column);
        if (stock.palletIn(chamber, cell) != NONE) {
            throw new NoSuchElementException("the cell is not free");
        }
        int way = stock.wayTo(chamber, cell);
        if (way == NONE) {
            throw new NoSuchElementException("there is no free way to the cell");
        }
        return way;
    }

    public int reachableCells(int chamber) throws IndexOutOfBoundsException {
        checkChamber(chamber);
        Chamber place = setup.chamberAt(chamber);
        int free = stock.freeIn(chamber);
        return place.flood(place.doors & free, free);
    }

    public int safeCells(int chamber, int goods) throws IndexOutOfBoundsException {
        checkChamber(chamber);
        checkGoods(goods);
        return stock.safeIn(chamber, goods);
    }

    public int obstacles(int pallet)
            throws IndexOutOfBoundsException, IllegalStateException, NoSuchElementException {
        checkPallet(pallet);
        if (stock.states.get(pallet) != STORED) {
            throw new IllegalStateException("the pallet is not stored");
        }
        int chamber = stock.chambers.get(pallet);
        int cell = stock.cells.get(pallet);
        int fewest = setup.chamberAt(chamber).fewestBlocked(stock.freeIn(chamber), cell);
        if (fewest == NONE) {
            throw new NoSuchElementException("the chamber has no door");
        }
        return fewest;
    }

    public int mostPairs(int chamber, int goods, int other)
            throws IndexOutOfBoundsException, IllegalArgumentException {
        checkChamber(chamber);
        checkGoods(goods);
        checkGoods(other);
        if (goods == other) {
            throw new IllegalArgumentException("both goods are the same");
        }
        int first = stock.safeIn(chamber, goods);
        int second = stock.safeIn(chamber, other);
        if (setup.goodsAt(goods).clashesWith(setup.goodsAt(other))) {
            return pairs.mostApart(setup.chamberAt(chamber), first, second);
        }
        return PairCounter.mostMixed(first, second);
    }

    public int bestSetpoint(int chamber) throws IndexOutOfBoundsException {
        checkChamber(chamber);
        int best = COLDEST;
        int most = 0;
        for (int degrees = COLDEST; degrees <= WARMEST; degrees++) {
            int suited = stock.countSuited(chamber, degrees);
            if (suited > most) {
                most = suited;
                best = degrees;
            }
        }
        return best;
    }

    public int availableFor(int order) throws IndexOutOfBoundsException {
        checkOrder(order);
        trial.copy(stock);
        return takeFor(setup.orderGoods.get(order), MOST_PALLETS);
    }

    // ---- Output

    public int textLength() {
        return writer.write(setup, stock, NONE);
    }

    public int textByte(int position) throws IndexOutOfBoundsException {
        if (position < 0 || position >= writer.write(setup, stock, position)) {
            throw new IndexOutOfBoundsException("no such byte");
        }
        return writer.found;
    }

    // ---- History

    public int undo() throws IllegalStateException {
        if (history.count == 0) {
            throw new IllegalStateException("there is nothing to undo");
        }
        history.giveBack(stock);
        return history.count;
    }

    public int undoCount() {
        return history.count;
    }

    public int save() {
        saved.copy(stock);
        hasSaved = true;
        return stock.day;
    }

    public int restore() throws IllegalStateException {
        if (!hasSaved) {
            throw new IllegalStateException("there is no copy");
        }
        stock.copy(saved);
        history.clear();
        return stock.day;
    }

    // ---- what the calls share

    private static int byteAt(int word, int index) {
        return word >>> (24 - 8 * index) & 255;
    }

    private static int byteCount(int word) {
        int count = 0;
        for (int i = 0; i < 4; i++) {
            if (byteAt(word, i) != 0) {
                count++;
            }
        }
        return count;
    }

    private void addBytes(int word) {
        for (int i = 0; i < 4; i++) {
            int value = byteAt(word, i);
            if (value != 0) {
                buffer.set(length, value);
                length++;
            }
        }
    }

    private void checkGoods(int goods) {
        if (goods < 0 || goods >= setup.goodsCount) {
            throw new IndexOutOfBoundsException("no such goods");
        }
    }

    private void checkPallet(int pallet) {
        if (pallet < 0 || pallet >= stock.palletCount) {
            throw new IndexOutOfBoundsException("no such pallet");
        }
    }

    private void checkChamber(int chamber) {
        if (chamber < 0 || chamber >= setup.chamberCount) {
            throw new IndexOutOfBoundsException("no such chamber");
        }
    }

    private void checkOrder(int order) {
        if (order < 0 || order >= setup.orderCount) {
            throw new IndexOutOfBoundsException("no such order");
        }
    }

    private int checkedCell(int chamber, int row, int column) {
        Chamber place = setup.chamberAt(chamber);
        if (row < 0 || row >= place.rows || column < 0 || column >= place.columns) {
            throw new IllegalArgumentException("no such row or column");
        }
        return row * place.columns + column;
    }

    private static boolean has(int cells, int cell) {
        return (cells >>> cell & 1) != 0;
    }

    private int problem(int pallet, int chamber, int cell) {
        if (stock.states.get(pallet) != WAITING) {
            return NOT_WAITING;
        }
        if (stock.palletIn(chamber, cell) != NONE) {
            return NOT_FREE;
        }
        if (!has(stock.safeIn(chamber, stock.goods.get(pallet)), cell)) {
            return WOULD_TAINT;
        }
        return stock.wayTo(chamber, cell) == NONE ? NO_WAY : NO_PROBLEM;
    }

    private int movesTo(int pallet, int chamber, int cell) {
        int own = 1 << stock.cells.get(pallet);
        int cellsOnWay = setup.chamberAt(chamber).wayLengthTo(
                cell, own, stock.freeIn(chamber) | own);
        return cellsOnWay == NONE ? NONE : cellsOnWay - 1;
    }

    private void acceptTrial() {
        history.keep(stock);
        stock.copy(trial);
    }

    /** Stores a pallet in the trial where autoStore wants it; false if no cell will do. */
    private boolean storeBest(int pallet) {
        int goods = trial.goods.get(pallet);
        int longest = 0;
        int bestChamber = NONE;
        int bestCell = NONE;
        for (int chamber = 0; chamber < setup.chamberCount; chamber++) {
            if (setup.goodsAt(goods).suits(trial.setpoints.get(chamber))) {
                int cell = setup.chamberAt(chamber).farthest(
                        trial.freeIn(chamber), trial.safeIn(chamber, goods));
                int way = cell == NONE ? 0 : trial.wayTo(chamber, cell);
                if (way > longest) {
                    longest = way;
                    bestChamber = chamber;
                    bestCell = cell;
                }
            }
        }
        if (bestCell == NONE) {
            return false;
        }
        trial.putIn(pallet, bestChamber, bestCell);
        return true;
    }

    /** Ships up to so many pallets of the goods in the trial; answers how many there were. */
    private int takeFor(int goods, int wanted) {
        for (int taken = 0; taken < wanted; taken++) {
            int pallet = nextToTake(goods);
            if (pallet == NONE) {
                return taken;
            }
            trial.finish(pallet, SHIPPED);
        }
        return wanted;
    }

    private int nextToTake(int goods) {
        int best = NONE;
        for (int pallet = 0; pallet < trial.palletCount; pallet++) {
            boolean older = best == NONE || trial.arrivals.get(pallet) < trial.arrivals.get(best);
            if (older && trial.goods.get(pallet) == goods && trial.canLeave(pallet)) {
                best = pallet;
            }
        }
        return best;
    }

    /** Whole numbers under tested indices: no index can make the machine throw. */
    private static final class Row {
        private final int[] values;

        Row(int size) {
            values = new int[Math.max(size, 0)];
        }

        int get(int index) {
            return index >= 0 && index < values.length ? values[index] : NONE;
        }

        void set(int index, int value) {
            if (index >= 0 && index < values.length) {
                values[index] = value;
            }
        }

        void add(int index, int difference) {
            if (index >= 0 && index < values.length) {
                values[index] += difference;
            }
        }

        void fill(int value) {
            Arrays.fill(values, value);
        }

        void copy(Row other) {
            int size = Math.min(values.length, other.values.length);
            System.arraycopy(other.values, 0, values, 0, size);
        }
    }

    /** A sort of goods. */
    private static final class Goods {
        private final int number;
        private int name;
        private int lowest;
        private int highest;
        private int life;
        private int smell;
        private int sensitivity;

        Goods(int number) {
            this.number = number;
        }

        boolean soils(Goods other) {
            return number != other.number && smell > other.sensitivity;
        }

        boolean clashesWith(Goods other) {
            return soils(other) || other.soils(this);
        }

        boolean suits(int degrees) {
            return degrees >= lowest && degrees <= highest;
        }

        /** By how much a night at so many tenths of a degree heats a pallet of these goods. */
        int heatedBy(int tenths) {
            if (tenths > 10 * highest) {
                return tenths - 10 * highest;
            }
            return tenths < 10 * lowest ? 10 * lowest - tenths : 0;
        }
    }

    /**
     * The plan of a chamber. A set of its cells is one int, with bit row * columns + column for
     * each cell, as in the answers of reachableCells and safeCells.
     */
    private static final class Chamber {
        private int name;
        private int rows;
        private int columns;
        private int setpoint;
        private int doors;
        private int all;
        private int firstColumn;

        void define(int name, int rows, int columns, int setpoint) {
            this.name = name;
            this.rows = rows;
            this.columns = columns;
            this.setpoint = setpoint;
            doors = 0;
            all = (1 << rows * columns) - 1;
            firstColumn = 0;
            for (int row = 0; row < rows; row++) {
                firstColumn |= 1 << row * columns;
            }
        }

        void addDoor(int row, int column) {
            doors |= 1 << row * columns + column;
        }

        /** All cells that are neighbouring to one of some cells. */
        int around(int cells) {
            int lastColumn = firstColumn << columns - 1;
            int beside = (cells & ~lastColumn) << 1 | (cells & ~firstColumn) >>> 1;
            return (beside | cells << columns | cells >>> columns) & all;
        }

        /** All cells to which one comes from some cells through open ones. */
        int flood(int from, int open) {
            int reached = from;
            for (int i = 0; i < MOST_CELLS; i++) {
                reached |= around(reached) & open;
            }
            return reached;
        }

        /** The number of cells on the shortest way through open cells, both ends counted. */
        int wayLengthTo(int cell, int from, int open) {
            int edge = from & open;
            int reached = edge;
            for (int cells = 1; cells <= MOST_CELLS; cells++) {
                if (has(edge, cell)) {
                    return cells;
                }
                edge = around(edge) & open & ~reached;
                reached |= edge;
            }
            return NONE;
        }

        /** The first of those wanted cells to which the shortest free way is the longest. */
        int farthest(int free, int wanted) {
            int edge = doors & free;
            int reached = edge;
            int last = 0;
            for (int i = 0; i < MOST_CELLS; i++) {
                if ((edge & wanted) != 0) {
                    last = edge & wanted;
                }
                edge = around(edge) & free & ~reached;
                reached |= edge;
            }
            for (int cell = 0; cell < MOST_CELLS; cell++) {
                if (has(last, cell)) {
                    return cell;
                }
            }
            return NONE;
        }

        /** How many cells that are not free lie, at least, on a way to a cell, but for itself. */
        int fewestBlocked(int free, int cell) {
            int open = free | 1 << cell;
            int reached = doors & open;
            for (int blocked = 0; blocked <= MOST_CELLS; blocked++) {
                reached = flood(reached, open);
                if (has(reached, cell)) {
                    return blocked;
                }
                reached |= around(reached) | doors;
            }
            return NONE;
        }
    }

    /** What a text defines; only load changes it. */
    private static final class Setup {
        private int goodsCount;
        private final Goods[] goods = new Goods[MOST_GOODS];
        private final Goods noGoods = new Goods(NONE);
        private int chamberCount;
        private final Chamber[] chambers = new Chamber[MOST_CHAMBERS];
        private final Chamber noChamber = new Chamber();
        private int orderCount;
        private final Row orderGoods = new Row(MOST_ORDERS);
        private final Row orderPallets = new Row(MOST_ORDERS);
        private final Row orderDays = new Row(MOST_ORDERS);
        private int palletCount;
        private final Row pallets = new Row(MOST_WAITING);
        private int heatLimit = USUAL_HEAT_LIMIT;
        private int taintLimit = USUAL_TAINT_LIMIT;
        private int quay = USUAL_QUAY;
        private boolean hasLimits;
        private boolean hasQuay;

        Setup() {
            for (int i = 0; i < goods.length; i++) {
                goods[i] = new Goods(i);
            }
            for (int i = 0; i < chambers.length; i++) {
                chambers[i] = new Chamber();
            }
        }

        void clear() {
            goodsCount = 0;
            chamberCount = 0;
            orderCount = 0;
            palletCount = 0;
            heatLimit = USUAL_HEAT_LIMIT;
            taintLimit = USUAL_TAINT_LIMIT;
            quay = USUAL_QUAY;
            hasLimits = false;
            hasQuay = false;
        }

        Goods goodsAt(int number) {
            Goods found = number >= 0 && number < goods.length ? goods[number] : null;
            return found == null ? noGoods : found;
        }

        Chamber chamberAt(int number) {
            Chamber found = number >= 0 && number < chambers.length ? chambers[number] : null;
            return found == null ? noChamber : found;
        }

        int goodsNamed(int name) {
            for (int i = 0; i < goodsCount; i++) {
                if (goodsAt(i).name == name) {
                    return i;
                }
            }
            return NONE;
        }

        int chamberNamed(int name) {
            for (int i = 0; i < chamberCount; i++) {
                if (chamberAt(i).name == name) {
                    return i;
                }
            }
            return NONE;
        }

        void addOrder(int ofGoods, int count, int day) {
            orderGoods.set(orderCount, ofGoods);
            orderPallets.set(orderCount, count);
            orderDays.set(orderCount, day);
            orderCount++;
        }

        void addPallet(int ofGoods) {
            pallets.set(palletCount, ofGoods);
            palletCount++;
        }

        boolean hasZoneAbove(int temperature) {
            for (int i = 0; i < goodsCount; i++) {
                if (goodsAt(i).lowest > temperature) {
                    return true;
                }
            }
            return false;
        }

        /** The least highest temperature of the goods whose lowest one is above another. */
        int zoneAbove(int temperature) {
            int least = WARMEST;
            for (int i = 0; i < goodsCount; i++) {
                if (goodsAt(i).lowest > temperature) {
                    least = Math.min(least, goodsAt(i).highest);
                }
            }
            return least;
        }
    }

    /** What the changes change: the pallets, the chambers' temperatures, the orders, the day. */
    private static final class Stock {
        private final Setup setup;
        private int day;
        private int palletCount;
        private final Row goods = new Row(MOST_PALLETS);
        private final Row states = new Row(MOST_PALLETS);
        private final Row chambers = new Row(MOST_PALLETS);
        private final Row cells = new Row(MOST_PALLETS);
        private final Row arrivals = new Row(MOST_PALLETS);
        private final Row ends = new Row(MOST_PALLETS);
        private final Row heats = new Row(MOST_PALLETS);
        private final Row taintings = new Row(MOST_PALLETS);
        private int waitingCount;
        private final Row waiting = new Row(MOST_WAITING);
        private final Row setpoints = new Row(MOST_CHAMBERS);
        private final Row warmings = new Row(MOST_CHAMBERS);
        private final Row openings = new Row(MOST_CHAMBERS);
        private final Row served = new Row(MOST_ORDERS);

        Stock(Setup setup) {
            this.setup = setup;
        }

        void begin() {
            day = 0;
            palletCount = 0;
            waitingCount = 0;
            warmings.fill(0);
            openings.fill(0);
            served.fill(0);
            for (int i = 0; i < setup.chamberCount; i++) {
                setpoints.set(i, setup.chamberAt(i).setpoint);
            }
            for (int i = 0; i < setup.palletCount; i++) {
                bring(setup.pallets.get(i));
            }
        }

        void copy(Stock other) {
            day = other.day;
            palletCount = other.palletCount;
            goods.copy(other.goods);
            states.copy(other.states);
            chambers.copy(other.chambers);
            cells.copy(other.cells);
            arrivals.copy(other.arrivals);
            ends.copy(other.ends);
            heats.copy(other.heats);
            taintings.copy(other.taintings);
            waitingCount = other.waitingCount;
            waiting.copy(other.waiting);
            setpoints.copy(other.setpoints);
            warmings.copy(other.warmings);
            openings.copy(other.openings);
            served.copy(other.served);
        }

        // ---- moving pallets

        int bring(int ofGoods) {
            int pallet = palletCount;
            palletCount++;
            goods.set(pallet, ofGoods);
            states.set(pallet, WAITING);
            chambers.set(pallet, NONE);
            cells.set(pallet, NONE);
            arrivals.set(pallet, day);
            ends.set(pallet, NONE);
            heats.set(pallet, 0);
            taintings.set(pallet, 0);
            queueUp(pallet);
            return pallet;
        }

        void queueUp(int pallet) {
            waiting.set(waitingCount, pallet);
            waitingCount++;
        }

        void leaveQueue(int pallet) {
            int kept = 0;
            for (int i = 0; i < waitingCount; i++) {
                int other = waiting.get(i);
                if (other != pallet) {
                    waiting.set(kept, other);
                    kept++;
                }
            }
            waitingCount = kept;
        }

        void putIn(int pallet, int chamber, int cell) {
            leaveQueue(pallet);
            states.set(pallet, STORED);
            chambers.set(pallet, chamber);
            cells.set(pallet, cell);
            openings.add(chamber, 1);
        }

        void takeOut(int pallet) {
            openings.add(chambers.get(pallet), 1);
            chambers.set(pallet, NONE);
            cells.set(pallet, NONE);
        }

        void moveTo(int pallet, int cell) {
            cells.set(pallet, cell);
        }

        void finish(int pallet, int state) {
            if (states.get(pallet) == STORED) {
                takeOut(pallet);
            } else {
                leaveQueue(pallet);
            }
            states.set(pallet, state);
            ends.set(pallet, day);
        }

        // ---- pallets

        Goods sortOf(int pallet) {
            return setup.goodsAt(goods.get(pallet));
        }

        boolean present(int pallet) {
            int state = states.get(pallet);
            return state == WAITING || state == STORED;
        }

        int countIn(int state) {
            int count = 0;
            for (int pallet = 0; pallet < palletCount; pallet++) {
                if (states.get(pallet) == state) {
                    count++;
                }
            }
            return count;
        }

        boolean spoiled(int pallet) {
            int until = present(pallet) ? day : ends.get(pallet);
            return heats.get(pallet) > setup.heatLimit
                    || taintings.get(pallet) > setup.taintLimit
                    || until - arrivals.get(pallet) > sortOf(pallet).life;
        }

        int countSpoiled() {
            int count = 0;
            for (int pallet = 0; pallet < palletCount; pallet++) {
                if (present(pallet) && spoiled(pallet)) {
                    count++;
                }
            }
            return count;
        }

        boolean canLeave(int pallet) {
            if (!present(pallet) || spoiled(pallet)) {
                return false;
            }
            return states.get(pallet) == WAITING
                    || wayTo(chambers.get(pallet), cells.get(pallet)) != NONE;
        }

        // ---- cells

        int palletIn(int chamber, int cell) {
            for (int pallet = 0; pallet < palletCount; pallet++) {
                if (chambers.get(pallet) == chamber && cells.get(pallet) == cell) {
                    return pallet;
                }
            }
            return NONE;
        }

        int freeIn(int chamber) {
            int free = setup.chamberAt(chamber).all;
            for (int pallet = 0; pallet < palletCount; pallet++) {
                if (chambers.get(pallet) == chamber) {
                    free &= ~(1 << cells.get(pallet));
                }
            }
            return free;
        }

        int safeIn(int chamber, int ofGoods) {
            Goods sort = setup.goodsAt(ofGoods);
            int clashing = 0;
            for (int pallet = 0; pallet < palletCount; pallet++) {
                if (chambers.get(pallet) == chamber && sort.clashesWith(sortOf(pallet))) {
                    clashing |= 1 << cells.get(pallet);
                }
            }
            return freeIn(chamber) & ~setup.chamberAt(chamber).around(clashing);
        }

        /** The length of the shortest way to a cell on which all other cells are free. */
        int wayTo(int chamber, int cell) {
            Chamber place = setup.chamberAt(chamber);
            return place.wayLengthTo(cell, place.doors, freeIn(chamber) | 1 << cell);
        }

        int countSuited(int chamber, int degrees) {
            int count = 0;
            for (int pallet = 0; pallet < palletCount; pallet++) {
                if (chambers.get(pallet) == chamber && sortOf(pallet).suits(degrees)) {
                    count++;
                }
            }
            return count;
        }

        // ---- nights

        int tenthsIn(int chamber) {
            return 10 * setpoints.get(chamber) + warmings.get(chamber);
        }

        int warmingAfter(int chamber, int opened) {
            return (warmings.get(chamber) + 4 * opened) / 2;
        }

        void passNights(int nights) {
            for (int night = 0; night < nights; night++) {
                warmChambers();
                heatPallets();
                taintWaiting();
                day++;
            }
        }

        private void warmChambers() {
            for (int chamber = 0; chamber < setup.chamberCount; chamber++) {
                warmings.set(chamber, warmingAfter(chamber, openings.get(chamber)));
                openings.set(chamber, 0);
            }
        }

        private void heatPallets() {
            for (int pallet = 0; pallet < palletCount; pallet++) {
                if (present(pallet)) {
                    boolean outside = states.get(pallet) == WAITING;
                    int tenths = outside ? 10 * setup.quay : tenthsIn(chambers.get(pallet));
                    heats.add(pallet, sortOf(pallet).heatedBy(tenths));
                }
            }
        }

        private void taintWaiting() {
            for (int i = 0; i < waitingCount; i++) {
                int pallet = waiting.get(i);
                Goods sort = sortOf(pallet);
                int growth = 0;
                for (int j = 0; j < waitingCount; j++) {
                    Goods other = sortOf(waiting.get(j));
                    if (other.soils(sort)) {
                        growth = Math.max(growth, other.smell - sort.sensitivity);
                    }
                }
                taintings.add(pallet, growth);
            }
        }
    }

    /** The stocks before the latest changes, the oldest of them overwritten by a new one. */
    private static final class History {
        private final Stock[] kept = new Stock[MOST_UNDONE];
        private int first;
        private int count;

        History(Setup setup) {
            for (int i = 0; i < kept.length; i++) {
                kept[i] = new Stock(setup);
            }
        }

        void clear() {
            first = 0;
            count = 0;
        }

        void keep(Stock stock) {
            if (count == MOST_UNDONE) {
                first = (first + 1) % MOST_UNDONE;
                count--;
            }
            Stock place = at(count);
            if (place != null) {
                place.copy(stock);
                count++;
            }
        }

        void giveBack(Stock stock) {
            Stock latest = at(count - 1);
            if (latest != null) {
                stock.copy(latest);
                count--;
            }
        }

        private Stock at(int age) {
            int index = (first + age) % MOST_UNDONE;
            return index >= 0 && index < kept.length ? kept[index] : null;
        }
    }

    /** Counts the pairs that a chamber can take. */
    private static final class PairCounter {
        /** No chamber has cells for more pairs. */
        private static final int MOST_PAIRS = MOST_CELLS / 2;
        private static final int COUNTS = MOST_PAIRS + 1;
        /** Each of four columns was left free (0) or holds the first (1) or second goods (2). */
        private static final int EDGES = 81;

        /** For each edge and count of the first goods the most pallets of the second; or NONE. */
        private final Row most = new Row(EDGES * COUNTS);
        private final Row before = new Row(EDGES * COUNTS);

        /**
         * If the goods may stand side by side, only the number of cells matters: by Hall's theorem
         * these three bounds suffice.
         */
        static int mostMixed(int first, int second) {
            int either = Integer.bitCount(first | second) / 2;
            return Math.min(either, Math.min(Integer.bitCount(first), Integer.bitCount(second)));
        }

        /**
         * Goods that clash stand apart. The cells are filled row by row; the edge tells what stands
         * in the latest cell of each column, for only these have neighbours among those to come.
         */
        int mostApart(Chamber chamber, int first, int second) {
            most.fill(NONE);
            most.set(0, 0);
            int cell = 0;
            for (int row = 0; row < chamber.rows; row++) {
                int weight = 1;
                for (int column = 0; column < chamber.columns; column++) {
                    before.copy(most);
                    most.fill(NONE);
                    fillCell(column, weight, has(first, cell), has(second, cell));
                    weight *= 3;
                    cell++;
                }
            }
            return bestBalance();
        }

        private void fillCell(int column, int weight, boolean first, boolean second) {
            for (int edge = 0; edge < EDGES; edge++) {
                int above = digit(edge, column);
                int left = column > 0 ? digit(edge, column - 1) : 0;
                boolean firstFits = first && above != 2 && left != 2;
                boolean secondFits = second && above != 1 && left != 1;
                int freed = edge - above * weight;
                for (int firsts = 0; firsts <= MOST_PAIRS; firsts++) {
                    int seconds = before.get(edge * COUNTS + firsts);
                    if (seconds != NONE) {
                        raise(freed, firsts, seconds);
                        if (firstFits && firsts < MOST_PAIRS) {
                            raise(freed + weight, firsts + 1, seconds);
                        }
                        if (secondFits) {
                            raise(freed + 2 * weight, firsts, seconds + 1);
                        }
                    }
                }
            }
        }

        private static int digit(int edge, int column) {
            int rest = edge;
            for (int i = 0; i < column; i++) {
                rest /= 3;
            }
            return rest % 3;
        }

        private void raise(int edge, int firsts, int seconds) {
            int index = edge * COUNTS + firsts;
            most.set(index, Math.max(most.get(index), seconds));
        }

        private int bestBalance() {
            int best = 0;
            for (int edge = 0; edge < EDGES; edge++) {
                for (int firsts = 0; firsts <= MOST_PAIRS; firsts++) {
                    best = Math.max(best, Math.min(firsts, most.get(edge * COUNTS + firsts)));
                }
            }
            return best;
        }
    }

    /** Reads a text into a setup, token by token. */
    private static final class Parser {
        private static final int END = 0;
        private static final int WORD = 1;
        private static final int NUMBER = 2;
        private static final int OTHER = 3;
        private static final int MOST_DIGITS = 4;
        private static final int MOST_LETTERS = 6;

        private final Row text;
        private int length;
        private int kind;
        private int start;
        private int end;
        private int value;

        Parser(Row text) {
            this.text = text;
        }

        /**
         * Every method below that answers false leaves the token that cannot be accepted as the
         * present one; at the end of the text this is an empty token at its length.
         */
        int firstError(int textLength, Setup setup) {
            length = textLength;
            end = 0;
            setup.clear();
            for (int statements = 0; statements <= textLength; statements++) {
                next();
                if (!statement(setup)) {
                    return start;
                }
                if (kind == END) {
                    return NONE;
                }
                if (!isByte(';')) {
                    return start;
                }
            }
            return start;
        }

        private boolean statement(Setup setup) {
            if (is(CHAMBER)) {
                return setup.chamberCount < MOST_CHAMBERS && chamberStatement(setup);
            }
            if (is(DOOR)) {
                return doorStatement(setup);
            }
            if (is(GOODS)) {
                return setup.goodsCount < MOST_GOODS && goodsStatement(setup);
            }
            if (is(PALLET)) {
                return setup.palletCount < MOST_WAITING && palletStatement(setup);
            }
            if (is(ORDER)) {
                return setup.orderCount < MOST_ORDERS && orderStatement(setup);
            }
            if (is(LIMITS)) {
                return !setup.hasLimits && limitsStatement(setup);
            }
            return is(QUAY) && !setup.hasQuay && quayStatement(setup);
        }

        private boolean chamberStatement(Setup setup) {
            next();
            if (!newName(setup)) {
                return false;
            }
            int name = value;
            if (!number(1, MOST_ROWS, false)) {
                return false;
            }
            int rows = value;
            if (!number(1, MOST_COLUMNS, false)) {
                return false;
            }
            int columns = value;
            if (!number(COLDEST, WARMEST, true)) {
                return false;
            }
            setup.chamberAt(setup.chamberCount).define(name, rows, columns, value);
            setup.chamberCount++;
            return true;
        }

        private boolean doorStatement(Setup setup) {
            next();
            if (!chamberName(setup)) {
                return false;
            }
            Chamber chamber = setup.chamberAt(value);
            if (!number(0, chamber.rows - 1, false)) {
                return false;
            }
            int row = value;
            if (!number(0, chamber.columns - 1, false)) {
                return false;
            }
            chamber.addDoor(row, value);
            return true;
        }

        private boolean goodsStatement(Setup setup) {
            next();
            if (!newName(setup)) {
                return false;
            }
            // Whatever is left here by a statement that ends too early is not counted as goods.
            Goods goods = setup.goodsAt(setup.goodsCount);
            goods.name = value;
            if (!number(COLDEST, WARMEST, true)) {
                return false;
            }
            goods.lowest = value;
            if (!number(goods.lowest, WARMEST, true)) {
                return false;
            }
            goods.highest = value;
            if (!number(1, 60, false)) {
                return false;
            }
            goods.life = value;
            if (!number(0, 9, false)) {
                return false;
            }
            goods.smell = value;
            if (!number(0, 9, false)) {
                return false;
            }
            goods.sensitivity = value;
            setup.goodsCount++;
            return true;
        }

        private boolean palletStatement(Setup setup) {
            next();
            if (!goodsName(setup)) {
                return false;
            }
            setup.addPallet(value);
            return true;
        }

        private boolean orderStatement(Setup setup) {
            next();
            if (!goodsName(setup)) {
                return false;
            }
            int goods = value;
            if (!number(1, 9, false)) {
                return false;
            }
            int count = value;
            if (!number(0, LAST_DAY, false)) {
                return false;
            }
            setup.addOrder(goods, count, value);
            return true;
        }

        private boolean limitsStatement(Setup setup) {
            next();
            if (!number(0, 999, false)) {
                return false;
            }
            setup.heatLimit = value;
            if (!number(0, 999, false)) {
                return false;
            }
            setup.taintLimit = value;
            setup.hasLimits = true;
            return true;
        }

        private boolean quayStatement(Setup setup) {
            next();
            if (!number(COLDEST, WARMEST_QUAY, true)) {
                return false;
            }
            setup.quay = value;
            setup.hasQuay = true;
            return true;
        }

        // ---- parts of statements; each leaves what it has read in value

        private boolean newName(Setup setup) {
            value = wordCode();
            if (value == NONE || setup.chamberNamed(value) != NONE
                    || setup.goodsNamed(value) != NONE) {
                return false;
            }
            if (is(CHAMBER) || is(DOOR) || is(GOODS) || is(PALLET) || is(ORDER)
                    || is(LIMITS) || is(QUAY)) {
                return false;
            }
            next();
            return true;
        }

        private boolean chamberName(Setup setup) {
            value = setup.chamberNamed(wordCode());
            if (value == NONE) {
                return false;
            }
            next();
            return true;
        }

        private boolean goodsName(Setup setup) {
            value = setup.goodsNamed(wordCode());
            if (value == NONE) {
                return false;
            }
            next();
            return true;
        }

        private boolean number(int lowest, int highest, boolean signed) {
            int sign = 1;
            if (signed && isByte('-')) {
                sign = -1;
                next();
            }
            if (kind != NUMBER || end - start > MOST_DIGITS) {
                return false;
            }
            value = 0;
            for (int i = start; i < end; i++) {
                value = 10 * value + sign * (text.get(i) - '0');
            }
            if (value < lowest || value > highest) {
                return false;
            }
            next();
            return true;
        }

        // ---- tokens

        private void next() {
            start = end;
            while (start < length && text.get(start) == ' ') {
                start++;
            }
            end = start;
            kind = start < length ? kindOf(text.get(start)) : END;
            if (kind == OTHER) {
                end++;
                return;
            }
            while (end < length && kindOf(text.get(end)) == kind) {
                end++;
            }
        }

        private static int kindOf(int sign) {
            if (sign >= 'a' && sign <= 'z') {
                return WORD;
            }
            return sign >= '0' && sign <= '9' ? NUMBER : OTHER;
        }

        private boolean isByte(char sign) {
            return kind == OTHER && text.get(start) == sign;
        }

        private boolean is(String word) {
            if (kind != WORD || end - start != word.length()) {
                return false;
            }
            for (int i = 0; i < word.length(); i++) {
                if (text.get(start + i) != word.charAt(i)) {
                    return false;
                }
            }
            return true;
        }

        /** A name is kept as one number, five bits a letter; NONE if the token is no name. */
        private int wordCode() {
            if (kind != WORD || end - start > MOST_LETTERS) {
                return NONE;
            }
            int code = 0;
            for (int i = start; i < end; i++) {
                code = code << 5 | text.get(i) - 'a' + 1;
            }
            return code;
        }
    }

    /** Writes the setup as a text of which it keeps only the length and one byte. */
    private static final class TextWriter {
        private int length;
        private int wanted;
        private int found;

        /** Answers the length; the byte at the wanted position, if there is one, is in found. */
        int write(Setup setup, Stock stock, int position) {
            length = 0;
            wanted = position;
            found = NONE;
            writeChambers(setup, stock);
            writeDoors(setup);
            writeGoods(setup);
            writePallets(stock);
            writeOrders(setup, stock);
            if (setup.heatLimit != USUAL_HEAT_LIMIT || setup.taintLimit != USUAL_TAINT_LIMIT) {
                begin(LIMITS);
                number(setup.heatLimit);
                number(setup.taintLimit);
            }
            if (setup.quay != USUAL_QUAY) {
                begin(QUAY);
                number(setup.quay);
            }
            return length;
        }

        private void writeChambers(Setup setup, Stock stock) {
            for (int i = 0; i < setup.chamberCount; i++) {
                Chamber chamber = setup.chamberAt(i);
                begin(CHAMBER);
                name(chamber.name);
                number(chamber.rows);
                number(chamber.columns);
                number(stock.setpoints.get(i));
            }
        }

        private void writeDoors(Setup setup) {
            for (int i = 0; i < setup.chamberCount; i++) {
                Chamber chamber = setup.chamberAt(i);
                for (int row = 0; row < chamber.rows; row++) {
                    for (int column = 0; column < chamber.columns; column++) {
                        if (has(chamber.doors, row * chamber.columns + column)) {
                            begin(DOOR);
                            name(chamber.name);
                            number(row);
                            number(column);
                        }
                    }
                }
            }
        }

        private void writeGoods(Setup setup) {
            for (int i = 0; i < setup.goodsCount; i++) {
                Goods goods = setup.goodsAt(i);
                begin(GOODS);
                name(goods.name);
                number(goods.lowest);
                number(goods.highest);
                number(goods.life);
                number(goods.smell);
                number(goods.sensitivity);
            }
        }

        private void writePallets(Stock stock) {
            for (int i = 0; i < stock.waitingCount; i++) {
                begin(PALLET);
                name(stock.sortOf(stock.waiting.get(i)).name);
            }
        }

        private void writeOrders(Setup setup, Stock stock) {
            for (int i = 0; i < setup.orderCount; i++) {
                if (stock.served.get(i) == 0) {
                    begin(ORDER);
                    name(setup.goodsAt(setup.orderGoods.get(i)).name);
                    number(setup.orderPallets.get(i));
                    number(setup.orderDays.get(i));
                }
            }
        }

        private void begin(String word) {
            if (length > 0) {
                put(';');
            }
            for (int i = 0; i < word.length(); i++) {
                put(word.charAt(i));
            }
        }

        private void name(int code) {
            put(' ');
            for (int bits = 25; bits >= 0; bits -= 5) {
                int letter = code >>> bits & 31;
                if (letter != 0) {
                    put('a' - 1 + letter);
                }
            }
        }

        private void number(int number) {
            put(' ');
            if (number < 0) {
                put('-');
            }
            int rest = Math.abs(number);
            if (rest >= 100) {
                put('0' + rest / 100 % 10);
            }
            if (rest >= 10) {
                put('0' + rest / 10 % 10);
            }
            put('0' + rest % 10);
        }

        private void put(int sign) {
            if (length == wanted) {
                found = sign;
            }
            length++;
        }
    }
}
