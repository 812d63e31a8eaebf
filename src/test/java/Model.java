import java.util.ArrayList;
import java.util.Arrays;
import java.util.HashMap;
import java.util.List;
import java.util.Map;
import java.util.NoSuchElementException;

/** The document written a second time, plainly and slowly, to compare the class with. */
final class Model {
    static final class Sort {
        String name;
        int low;
        int high;
        int life;
        int smell;
        int sensitivity;
    }

    static final class Pallet {
        int goods;
        int state;
        int chamber = -1;
        int row = -1;
        int column = -1;
        int arrival;
        int end;
        int heat;
        int taint;

        Pallet twin() {
            Pallet p = new Pallet();
            p.goods = goods;
            p.state = state;
            p.chamber = chamber;
            p.row = row;
            p.column = column;
            p.arrival = arrival;
            p.end = end;
            p.heat = heat;
            p.taint = taint;
            return p;
        }
    }

    static final class Room {
        String name;
        int rows;
        int columns;
        int setpoint;
        int warming;
        int openings;
        boolean[][] door;

        Room twin() {
            Room r = new Room();
            r.name = name;
            r.rows = rows;
            r.columns = columns;
            r.setpoint = setpoint;
            r.warming = warming;
            r.openings = openings;
            r.door = door;
            return r;
        }
    }

    static final class Wish {
        int goods;
        int count;
        int day;
        boolean served;

        Wish twin() {
            Wish w = new Wish();
            w.goods = goods;
            w.count = count;
            w.day = day;
            w.served = served;
            return w;
        }
    }

    static final class World {
        List<Sort> sorts = new ArrayList<>();
        List<Room> rooms = new ArrayList<>();
        List<Pallet> pallets = new ArrayList<>();
        List<Integer> waiting = new ArrayList<>();
        List<Wish> wishes = new ArrayList<>();
        int day;
        int heatLimit = 100;
        int taintLimit = 10;
        int quay = 12;

        World twin() {
            World w = new World();
            w.sorts = sorts;
            for (Room r : rooms) {
                w.rooms.add(r.twin());
            }
            for (Pallet p : pallets) {
                w.pallets.add(p.twin());
            }
            w.waiting.addAll(waiting);
            for (Wish v : wishes) {
                w.wishes.add(v.twin());
            }
            w.day = day;
            w.heatLimit = heatLimit;
            w.taintLimit = taintLimit;
            w.quay = quay;
            return w;
        }

        boolean taints(int a, int b) {
            return a != b && sorts.get(a).smell > sorts.get(b).sensitivity;
        }

        boolean clash(int a, int b) {
            return taints(a, b) || taints(b, a);
        }

        int at(int chamber, int row, int column) {
            for (int i = 0; i < pallets.size(); i++) {
                Pallet p = pallets.get(i);
                if (p.state == 1 && p.chamber == chamber && p.row == row && p.column == column) {
                    return i;
                }
            }
            return -1;
        }

        boolean inside(int chamber, int row, int column) {
            Room r = rooms.get(chamber);
            return row >= 0 && row < r.rows && column >= 0 && column < r.columns;
        }

        /** Neighbouring pallets do not clash with the goods; the cell itself does not matter. */
        boolean safe(int chamber, int row, int column, int goods) {
            int[][] steps = {{0, 1}, {1, 0}, {0, -1}, {-1, 0}};
            for (int[] s : steps) {
                if (inside(chamber, row + s[0], column + s[1])) {
                    int other = at(chamber, row + s[0], column + s[1]);
                    if (other >= 0 && clash(goods, pallets.get(other).goods)) {
                        return false;
                    }
                }
            }
            return true;
        }

        /**
         * The least cost of a way from a start to the cell: each cell costs one, and beyond that
         * each occupied one, the cell itself but for, the toll; -1 if it is too dear.
         */
        int cheapest(int chamber, boolean[][] start, int row, int column, int step, int toll) {
            Room r = rooms.get(chamber);
            int dear = 100000;
            int[][] cost = new int[r.rows][r.columns];
            for (int[] line : cost) {
                Arrays.fill(line, dear);
            }
            boolean moved = true;
            while (moved) {
                moved = false;
                for (int i = 0; i < r.rows; i++) {
                    for (int j = 0; j < r.columns; j++) {
                        int best = start[i][j] ? 0 : dear;
                        best = i > 0 ? Math.min(best, cost[i - 1][j]) : best;
                        best = j > 0 ? Math.min(best, cost[i][j - 1]) : best;
                        best = i + 1 < r.rows ? Math.min(best, cost[i + 1][j]) : best;
                        best = j + 1 < r.columns ? Math.min(best, cost[i][j + 1]) : best;
                        boolean target = i == row && j == column;
                        best += step + (!target && at(chamber, i, j) >= 0 ? toll : 0);
                        if (best < cost[i][j]) {
                            cost[i][j] = best;
                            moved = true;
                        }
                    }
                }
            }
            return cost[row][column] >= 1000 ? -1 : cost[row][column];
        }

        /** The shortest way on which all other cells are free; -1 if there is none. */
        int way(int chamber, int row, int column) {
            return cheapest(chamber, rooms.get(chamber).door, row, column, 1, 1000);
        }

        boolean spoiled(Pallet p) {
            int until = p.state < 2 ? day : p.end;
            return p.heat > heatLimit || p.taint > taintLimit
                    || until - p.arrival > sorts.get(p.goods).life;
        }

        int spoiledCount() {
            int n = 0;
            for (Pallet p : pallets) {
                n += p.state < 2 && spoiled(p) ? 1 : 0;
            }
            return n;
        }

        void night() {
            for (Room r : rooms) {
                r.warming = (r.warming + 4 * r.openings) / 2;
                r.openings = 0;
            }
            for (Pallet p : pallets) {
                if (p.state < 2) {
                    int t = p.state == 0 ? 10 * quay
                            : 10 * rooms.get(p.chamber).setpoint + rooms.get(p.chamber).warming;
                    p.heat += Math.max(0, t - 10 * sorts.get(p.goods).high);
                    p.heat += Math.max(0, 10 * sorts.get(p.goods).low - t);
                }
            }
            for (int a : waiting) {
                int worst = -1;
                for (int b : waiting) {
                    if (taints(pallets.get(b).goods, pallets.get(a).goods)) {
                        worst = Math.max(worst, sorts.get(pallets.get(b).goods).smell);
                    }
                }
                if (worst >= 0) {
                    pallets.get(a).taint += worst - sorts.get(pallets.get(a).goods).sensitivity;
                }
            }
            day++;
        }

        int arrive(int goods) {
            Pallet p = new Pallet();
            p.goods = goods;
            p.arrival = day;
            pallets.add(p);
            waiting.add(pallets.size() - 1);
            return pallets.size() - 1;
        }

        int problem(int pallet, int chamber, int row, int column) {
            Pallet p = pallets.get(pallet);
            if (p.state != 0) {
                return 1;
            }
            if (at(chamber, row, column) >= 0) {
                return 2;
            }
            if (!safe(chamber, row, column, p.goods)) {
                return 3;
            }
            return way(chamber, row, column) < 0 ? 4 : 0;
        }

        void put(int pallet, int chamber, int row, int column) {
            Pallet p = pallets.get(pallet);
            p.state = 1;
            p.chamber = chamber;
            p.row = row;
            p.column = column;
            waiting.remove((Integer) pallet);
            rooms.get(chamber).openings++;
        }

        void leave(int pallet, int state) {
            Pallet p = pallets.get(pallet);
            if (p.state == 1) {
                rooms.get(p.chamber).openings++;
            } else {
                waiting.remove((Integer) pallet);
            }
            p.state = state;
            p.chamber = -1;
            p.row = -1;
            p.column = -1;
            p.end = day;
        }

        /** The pallet that serve takes next, or -1. */
        int next(int goods) {
            int best = -1;
            for (int i = 0; i < pallets.size(); i++) {
                Pallet p = pallets.get(i);
                if (p.goods != goods || p.state > 1 || spoiled(p)) {
                    continue;
                }
                if (p.state == 1 && way(p.chamber, p.row, p.column) < 0) {
                    continue;
                }
                if (best < 0 || p.arrival < pallets.get(best).arrival) {
                    best = i;
                }
            }
            return best;
        }

        String text() {
            List<String> all = new ArrayList<>();
            for (Room r : rooms) {
                all.add("chamber " + r.name + " " + r.rows + " " + r.columns + " " + r.setpoint);
            }
            for (Room r : rooms) {
                for (int i = 0; i < r.rows; i++) {
                    for (int j = 0; j < r.columns; j++) {
                        if (r.door[i][j]) {
                            all.add("door " + r.name + " " + i + " " + j);
                        }
                    }
                }
            }
            for (Sort s : sorts) {
                all.add("goods " + s.name + " " + s.low + " " + s.high + " " + s.life + " " + s.smell
                        + " " + s.sensitivity);
            }
            for (int w : waiting) {
                all.add("pallet " + sorts.get(pallets.get(w).goods).name);
            }
            for (Wish w : wishes) {
                if (!w.served) {
                    all.add("order " + sorts.get(w.goods).name + " " + w.count + " " + w.day);
                }
            }
            if (heatLimit != 100 || taintLimit != 10) {
                all.add("limits " + heatLimit + " " + taintLimit);
            }
            if (quay != 12) {
                all.add("quay " + quay);
            }
            return String.join(";", all);
        }
    }

    /** Reads a text against patterns: each statement is a word and a list of what must follow. */
    static final class Reader {
        static final Map<String, String> PATTERNS = new HashMap<>();

        static {
            PATTERNS.put("chamber", "new 1..6 1..4 t-30..20");
            PATTERNS.put("door", "chamber row column");
            PATTERNS.put("goods", "new t-30..20 tlow..20 1..60 0..9 0..9");
            PATTERNS.put("pallet", "goods");
            PATTERNS.put("order", "goods 1..9 0..365");
            PATTERNS.put("limits", "0..999 0..999");
            PATTERNS.put("quay", "t-30..40");
        }

        final String text;
        final List<String> tokens = new ArrayList<>();
        final List<Integer> places = new ArrayList<>();
        final World world = new World();
        int error = -1;

        Reader(String text) {
            this.text = text;
            var m = java.util.regex.Pattern.compile("[a-z]+|[0-9]+|[^ ]",
                    java.util.regex.Pattern.DOTALL).matcher(text);
            while (m.find()) {
                tokens.add(m.group());
                places.add(m.start());
            }
            int i = 0;
            while (true) {
                i = statement(i);
                if (i < 0) {
                    return;
                }
                if (i == tokens.size()) {
                    return;
                }
                if (!tokens.get(i).equals(";")) {
                    error = places.get(i);
                    return;
                }
                i++;
            }
        }

        int bad(int i) {
            error = i < tokens.size() ? places.get(i) : text.length();
            return -1;
        }

        int count(String word) {
            switch (word) {
                case "chamber":
                    return 3 - world.rooms.size();
                case "goods":
                    return 6 - world.sorts.size();
                case "pallet":
                    return 8 - world.pallets.size();
                case "order":
                    return 10 - world.wishes.size();
                default:
                    return seen.contains(word) && !word.equals("door") ? 0 : 1;
            }
        }

        final List<String> seen = new ArrayList<>();

        int room(String name) {
            for (int i = 0; i < world.rooms.size(); i++) {
                if (world.rooms.get(i).name.equals(name)) {
                    return i;
                }
            }
            return -1;
        }

        int sort(String name) {
            for (int i = 0; i < world.sorts.size(); i++) {
                if (world.sorts.get(i).name.equals(name)) {
                    return i;
                }
            }
            return -1;
        }

        int statement(int i) {
            if (i >= tokens.size() || !PATTERNS.containsKey(tokens.get(i))) {
                return bad(i);
            }
            String word = tokens.get(i);
            if (count(word) <= 0) {
                return bad(i);
            }
            seen.add(word);
            i++;
            List<Integer> values = new ArrayList<>();
            String name = "";
            for (String part : PATTERNS.get(word).split(" ")) {
                String token = i < tokens.size() ? tokens.get(i) : "";
                if (part.equals("new")) {
                    if (!token.matches("[a-z]{1,6}") || PATTERNS.containsKey(token)
                            || room(token) >= 0 || sort(token) >= 0) {
                        return bad(i);
                    }
                    name = token;
                } else if (part.equals("chamber") || part.equals("goods")) {
                    int found = part.equals("chamber") ? room(token) : sort(token);
                    if (found < 0) {
                        return bad(i);
                    }
                    values.add(found);
                } else {
                    if (part.equals("row")) {
                        part = "0.." + (world.rooms.get(values.get(0)).rows - 1);
                    } else if (part.equals("column")) {
                        part = "0.." + (world.rooms.get(values.get(0)).columns - 1);
                    } else if (part.equals("tlow..20")) {
                        part = "t" + values.get(0) + "..20";
                    }
                    boolean minus = part.startsWith("t") && token.equals("-");
                    if (minus) {
                        i++;
                        token = i < tokens.size() ? tokens.get(i) : "";
                    }
                    if (!token.matches("[0-9]{1,4}")) {
                        return bad(i);
                    }
                    String[] range = part.replace("t", "").split("\\.\\.");
                    int number = Integer.parseInt((minus ? "-" : "") + token);
                    if (number < Integer.parseInt(range[0]) || number > Integer.parseInt(range[1])) {
                        return bad(i);
                    }
                    values.add(number);
                }
                i++;
            }
            define(word, name, values);
            return i;
        }

        void define(String word, String name, List<Integer> v) {
            switch (word) {
                case "chamber":
                    Room r = new Room();
                    r.name = name;
                    r.rows = v.get(0);
                    r.columns = v.get(1);
                    r.setpoint = v.get(2);
                    r.door = new boolean[r.rows][r.columns];
                    world.rooms.add(r);
                    break;
                case "door":
                    world.rooms.get(v.get(0)).door[v.get(1)][v.get(2)] = true;
                    break;
                case "goods":
                    Sort s = new Sort();
                    s.name = name;
                    s.low = v.get(0);
                    s.high = v.get(1);
                    s.life = v.get(2);
                    s.smell = v.get(3);
                    s.sensitivity = v.get(4);
                    world.sorts.add(s);
                    break;
                case "pallet":
                    world.arrive(v.get(0));
                    break;
                case "order":
                    Wish w = new Wish();
                    w.goods = v.get(0);
                    w.count = v.get(1);
                    w.day = v.get(2);
                    world.wishes.add(w);
                    break;
                case "limits":
                    world.heatLimit = v.get(0);
                    world.taintLimit = v.get(1);
                    break;
                default:
                    world.quay = v.get(0);
                    break;
            }
        }
    }

    private String buffer = "";
    World now = new World();
    private World copy;
    private final List<World> past = new ArrayList<>();

    private void change() {
        past.add(now.twin());
        if (past.size() > 8) {
            past.remove(0);
        }
    }

    private void need(boolean holds, String exception) {
        if (!holds) {
            switch (exception) {
                case "index":
                    throw new IndexOutOfBoundsException();
                case "argument":
                    throw new IllegalArgumentException();
                case "state":
                    throw new IllegalStateException();
                default:
                    throw new NoSuchElementException();
            }
        }
    }

    private Pallet pallet(int number) {
        need(number >= 0 && number < now.pallets.size(), "index");
        return now.pallets.get(number);
    }

    private Room room(int number) {
        need(number >= 0 && number < now.rooms.size(), "index");
        return now.rooms.get(number);
    }

    private Sort sort(int number) {
        need(number >= 0 && number < now.sorts.size(), "index");
        return now.sorts.get(number);
    }

    private Wish wish(int number) {
        need(number >= 0 && number < now.wishes.size(), "index");
        return now.wishes.get(number);
    }

    int append(int... words) {
        StringBuilder more = new StringBuilder();
        for (int word : words) {
            for (int shift = 24; shift >= 0; shift -= 8) {
                if ((word >> shift & 255) != 0) {
                    more.append((char) (word >> shift & 255));
                }
            }
        }
        need(buffer.length() + more.length() <= 900, "state");
        buffer += more;
        return buffer.length();
    }

    int truncate(int length) {
        need(length >= 0 && length <= buffer.length(), "argument");
        buffer = buffer.substring(0, length);
        return length;
    }

    int errorPosition() {
        return new Reader(buffer).error;
    }

    int load() {
        Reader reader = new Reader(buffer);
        need(reader.error < 0, "argument");
        now = reader.world;
        past.clear();
        copy = null;
        buffer = "";
        return now.pallets.size();
    }

    int arrive(int goods) {
        sort(goods);
        need(now.pallets.size() < 40 && now.waiting.size() < 8, "state");
        change();
        return now.arrive(goods);
    }

    int store(int pallet, int chamber, int row, int column) {
        need(storeProblem(pallet, chamber, row, column) == 0, "state");
        change();
        int way = now.way(chamber, row, column);
        now.put(pallet, chamber, row, column);
        return way;
    }

    int retrieve(int pallet) {
        Pallet p = pallet(pallet);
        need(p.state == 1 && now.waiting.size() < 8, "state");
        int way = now.way(p.chamber, p.row, p.column);
        need(way > 0, "state");
        change();
        now.rooms.get(p.chamber).openings++;
        p.state = 0;
        p.chamber = -1;
        p.row = -1;
        p.column = -1;
        now.waiting.add(pallet);
        return way;
    }

    int shift(int pallet, int row, int column) {
        Pallet p = pallet(pallet);
        need(p.state == 1, "state");
        need(now.inside(p.chamber, row, column), "argument");
        need(now.at(p.chamber, row, column) < 0, "state");
        World without = now.twin();
        without.leave(pallet, 2);
        need(without.safe(p.chamber, row, column, p.goods), "state");
        Room r = room(p.chamber);
        boolean[][] start = new boolean[r.rows][r.columns];
        start[p.row][p.column] = true;
        int cells = without.cheapest(p.chamber, start, row, column, 1, 1000);
        need(cells > 0, "state");
        change();
        p.row = row;
        p.column = column;
        return cells - 1;
    }

    int ship(int pallet) {
        Pallet p = pallet(pallet);
        need(p.state == 0 && !now.spoiled(p), "state");
        change();
        now.leave(pallet, 2);
        return shippedCount();
    }

    int discard(int pallet) {
        need(pallet(pallet).state == 0, "state");
        change();
        now.leave(pallet, 3);
        return discardedCount();
    }

    int autoStore() {
        World before = now.twin();
        int n = 0;
        for (int pallet : new ArrayList<>(now.waiting)) {
            int[] best = null;
            for (int c = 0; c < now.rooms.size(); c++) {
                Room r = now.rooms.get(c);
                Sort s = now.sorts.get(now.pallets.get(pallet).goods);
                if (r.setpoint < s.low || r.setpoint > s.high) {
                    continue;
                }
                for (int i = 0; i < r.rows; i++) {
                    for (int j = 0; j < r.columns; j++) {
                        if (now.problem(pallet, c, i, j) == 0) {
                            int way = now.way(c, i, j);
                            if (best == null || way > best[3]) {
                                best = new int[] {c, i, j, way};
                            }
                        }
                    }
                }
            }
            if (best != null) {
                now.put(pallet, best[0], best[1], best[2]);
                n++;
            }
        }
        if (n > 0) {
            World after = now;
            now = before;
            change();
            now = after;
        }
        return n;
    }

    int serve(int order) {
        Wish w = wish(order);
        need(!w.served && now.day <= w.day, "state");
        World after = now.twin();
        int stored = 0;
        for (int i = 0; i < w.count; i++) {
            int next = after.next(w.goods);
            need(next >= 0, "state");
            stored += after.pallets.get(next).state;
            after.leave(next, 2);
        }
        after.wishes.get(order).served = true;
        change();
        now = after;
        return stored;
    }

    int setSetpoint(int chamber, int temperature) {
        Room r = room(chamber);
        need(temperature >= -30 && temperature <= 20, "argument");
        change();
        int before = r.setpoint;
        r.setpoint = temperature;
        return before;
    }

    int advance(int days) {
        need(days >= 1 && days <= 60, "argument");
        need(now.day + days <= 365, "argument");
        change();
        List<Pallet> fresh = new ArrayList<>();
        for (Pallet p : now.pallets) {
            if (p.state < 2 && !now.spoiled(p)) {
                fresh.add(p);
            }
        }
        for (int i = 0; i < days; i++) {
            now.night();
        }
        int n = 0;
        for (Pallet p : fresh) {
            n += now.spoiled(p) ? 1 : 0;
        }
        return n;
    }

    int chamberCount() {
        return now.rooms.size();
    }

    int goodsCount() {
        return now.sorts.size();
    }

    int palletCount() {
        return now.pallets.size();
    }

    int orderCount() {
        return now.wishes.size();
    }

    int currentDay() {
        return now.day;
    }

    int waitingCount() {
        return now.waiting.size();
    }

    int waitingPallet(int index) {
        need(index >= 0 && index < now.waiting.size(), "index");
        return now.waiting.get(index);
    }

    int order(int order, int what) {
        Wish w = wish(order);
        need(what >= 0 && what <= 3, "argument");
        return new int[] {w.goods, w.count, w.day, w.served ? 1 : 0}[what];
    }

    int shippedCount() {
        return (int) now.pallets.stream().filter(p -> p.state == 2).count();
    }

    int discardedCount() {
        return (int) now.pallets.stream().filter(p -> p.state == 3).count();
    }

    int lowestTemperature(int goods) {
        return sort(goods).low;
    }

    int highestTemperature(int goods) {
        return sort(goods).high;
    }

    int shelfLife(int goods) {
        return sort(goods).life;
    }

    boolean taints(int goods, int other) {
        sort(goods);
        sort(other);
        return now.taints(goods, other);
    }

    private List<Integer> zones() {
        List<Integer> zones = new ArrayList<>();
        List<Sort> left = new ArrayList<>(now.sorts);
        while (!left.isEmpty()) {
            int t = left.stream().mapToInt(s -> s.high).min().getAsInt();
            zones.add(t);
            left.removeIf(s -> s.low <= t);
        }
        return zones;
    }

    /** By trying all sets of temperatures, the smallest first. */
    int zonesNeeded() {
        int n = 0;
        while (!covers(n, new ArrayList<>(now.sorts))) {
            n++;
        }
        return n;
    }

    private boolean covers(int n, List<Sort> left) {
        if (left.isEmpty()) {
            return true;
        }
        if (n == 0) {
            return false;
        }
        Sort first = left.get(0);
        for (int t = first.low; t <= first.high; t++) {
            int at = t;
            List<Sort> rest = new ArrayList<>(left);
            rest.removeIf(s -> s.low <= at && at <= s.high);
            if (covers(n - 1, rest)) {
                return true;
            }
        }
        return false;
    }

    int zoneTemperature(int index) {
        List<Integer> zones = zones();
        need(index >= 0 && index < zones.size(), "index");
        return zones.get(index);
    }

    int goodsOf(int pallet) {
        return pallet(pallet).goods;
    }

    int stateOf(int pallet) {
        return pallet(pallet).state;
    }

    int chamberOf(int pallet) {
        return pallet(pallet).chamber;
    }

    int cellOf(int pallet) {
        Pallet p = pallet(pallet);
        return p.state == 1 ? 10 * p.row + p.column : -1;
    }

    int arrivalDay(int pallet) {
        return pallet(pallet).arrival;
    }

    int heat(int pallet) {
        return pallet(pallet).heat;
    }

    int taint(int pallet) {
        return pallet(pallet).taint;
    }

    boolean isSpoiled(int pallet) {
        return now.spoiled(pallet(pallet));
    }

    int daysLeft(int pallet) {
        need(pallet(pallet).state < 2, "state");
        World later = now.twin();
        int nights = 0;
        while (!later.spoiled(later.pallets.get(pallet))) {
            later.night();
            nights++;
        }
        need(nights <= 100, "element");
        return nights;
    }

    int spoiledCount() {
        return now.spoiledCount();
    }

    int spoilsWithin(int nights) {
        need(nights >= 1 && nights <= 100, "argument");
        int n = 0;
        for (int i = 0; i < now.pallets.size(); i++) {
            if (now.pallets.get(i).state < 2) {
                int left = daysLeft(i);
                n += left > 0 && left <= nights ? 1 : 0;
            }
        }
        return n;
    }

    int setpoint(int chamber) {
        return room(chamber).setpoint;
    }

    int temperature(int chamber) {
        return 10 * room(chamber).setpoint + room(chamber).warming;
    }

    int temperatureAfter(int chamber, int openings) {
        Room r = room(chamber).twin();
        need(openings >= 0 && openings <= 99, "argument");
        World later = new World();
        r.openings = openings;
        later.rooms.add(r);
        later.night();
        return 10 * r.setpoint + r.warming;
    }

    int openings(int chamber) {
        return room(chamber).openings;
    }

    int palletAt(int chamber, int row, int column) {
        room(chamber);
        need(now.inside(chamber, row, column), "argument");
        return now.at(chamber, row, column);
    }

    int storeProblem(int pallet, int chamber, int row, int column) {
        pallet(pallet);
        room(chamber);
        need(now.inside(chamber, row, column), "argument");
        return now.problem(pallet, chamber, row, column);
    }

    int wayLength(int chamber, int row, int column) {
        room(chamber);
        need(now.inside(chamber, row, column), "argument");
        need(now.at(chamber, row, column) < 0, "element");
        int way = now.way(chamber, row, column);
        need(way > 0, "element");
        return way;
    }

    int reachableCells(int chamber) {
        Room r = room(chamber);
        int bits = 0;
        for (int i = 0; i < r.rows; i++) {
            for (int j = 0; j < r.columns; j++) {
                if (now.at(chamber, i, j) < 0 && now.way(chamber, i, j) > 0) {
                    bits |= 1 << i * r.columns + j;
                }
            }
        }
        return bits;
    }

    int safeCells(int chamber, int goods) {
        Room r = room(chamber);
        sort(goods);
        int bits = 0;
        for (int i = 0; i < r.rows; i++) {
            for (int j = 0; j < r.columns; j++) {
                if (now.at(chamber, i, j) < 0 && now.safe(chamber, i, j, goods)) {
                    bits |= 1 << i * r.columns + j;
                }
            }
        }
        return bits;
    }

    int obstacles(int pallet) {
        Pallet p = pallet(pallet);
        need(p.state == 1, "state");
        return now.cheapest(p.chamber, now.rooms.get(p.chamber).door, p.row, p.column, 0, 1);
    }

    /** By trying every set of cells for the first goods. */
    int mostPairs(int chamber, int goods, int other) {
        int a = safeCells(chamber, goods);
        int b = safeCells(chamber, other);
        need(goods != other, "argument");
        boolean clash = now.clash(goods, other);
        Room r = room(chamber);
        int[] around = new int[r.rows * r.columns];
        for (int i = 0; i < r.rows; i++) {
            for (int j = 0; j < r.columns; j++) {
                int bits = 0;
                bits |= i > 0 ? 1 << (i - 1) * r.columns + j : 0;
                bits |= i + 1 < r.rows ? 1 << (i + 1) * r.columns + j : 0;
                bits |= j > 0 ? 1 << i * r.columns + j - 1 : 0;
                bits |= j + 1 < r.columns ? 1 << i * r.columns + j + 1 : 0;
                around[i * r.columns + j] = clash ? bits : 0;
            }
        }
        return tryPairs(0, a, b, 0, around);
    }

    private int tryPairs(int cell, int a, int b, int used, int[] around) {
        if (cell == around.length) {
            return Math.min(used, Integer.bitCount(b));
        }
        int best = tryPairs(cell + 1, a, b, used, around);
        if ((a >> cell & 1) != 0) {
            int left = b & ~(1 << cell) & ~around[cell];
            best = Math.max(best, tryPairs(cell + 1, a, left, used + 1, around));
        }
        return best;
    }

    int bestSetpoint(int chamber) {
        room(chamber);
        int best = -31;
        int most = -1;
        for (int t = -30; t <= 20; t++) {
            int n = 0;
            for (Pallet p : now.pallets) {
                Sort s = now.sorts.get(p.goods);
                n += p.state == 1 && p.chamber == chamber && s.low <= t && t <= s.high ? 1 : 0;
            }
            if (n > most) {
                most = n;
                best = t;
            }
        }
        return best;
    }

    int availableFor(int order) {
        Wish w = wish(order);
        World later = now.twin();
        int n = 0;
        while (later.next(w.goods) >= 0) {
            later.leave(later.next(w.goods), 2);
            n++;
        }
        return n;
    }

    int textLength() {
        return now.text().length();
    }

    int textByte(int position) {
        String text = now.text();
        need(position >= 0 && position < text.length(), "index");
        return text.charAt(position);
    }

    int undo() {
        need(!past.isEmpty(), "state");
        now = past.remove(past.size() - 1);
        return past.size();
    }

    int undoCount() {
        return past.size();
    }

    int save() {
        copy = now.twin();
        return now.day;
    }

    int restore() {
        need(copy != null, "state");
        now = copy.twin();
        past.clear();
        return now.day;
    }
}
