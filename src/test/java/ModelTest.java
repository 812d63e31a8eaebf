import java.lang.reflect.InvocationTargetException;
import java.lang.reflect.Method;
import java.util.LinkedHashMap;
import java.util.Map;

/** Long runs of calls on the class and on Model, whose answers must be the same. */
public final class ModelTest {
    private static final Checks c = new Checks();
    private static final Map<String, String> CHANGES = new LinkedHashMap<>();
    private static final Map<String, String> QUESTIONS = new LinkedHashMap<>();

    static {
        CHANGES.put("arrive", "goods");
        CHANGES.put("store", "pallet chamber row column");
        CHANGES.put("retrieve", "pallet");
        CHANGES.put("shift", "pallet row column");
        CHANGES.put("ship", "pallet");
        CHANGES.put("discard", "pallet");
        CHANGES.put("autoStore", "");
        CHANGES.put("serve", "order");
        CHANGES.put("setSetpoint", "chamber temperature");
        CHANGES.put("advance", "days");
        CHANGES.put("undo", "");
        CHANGES.put("save", "");
        CHANGES.put("restore", "");
        for (String plain : ("chamberCount goodsCount palletCount orderCount currentDay waitingCount"
                + " shippedCount discardedCount zonesNeeded spoiledCount textLength undoCount"
                + " errorPosition load").split(" ")) {
            QUESTIONS.put(plain, "");
        }
        for (String ofPallet : ("goodsOf stateOf chamberOf cellOf arrivalDay heat taint isSpoiled"
                + " daysLeft obstacles").split(" ")) {
            QUESTIONS.put(ofPallet, "pallet");
        }
        for (String ofChamber : "setpoint temperature openings reachableCells bestSetpoint".split(" ")) {
            QUESTIONS.put(ofChamber, "chamber");
        }
        for (String ofGoods : "lowestTemperature highestTemperature shelfLife".split(" ")) {
            QUESTIONS.put(ofGoods, "goods");
        }
        QUESTIONS.put("waitingPallet", "index");
        QUESTIONS.put("order", "order what");
        QUESTIONS.put("taints", "goods goods");
        QUESTIONS.put("zoneTemperature", "index");
        QUESTIONS.put("spoilsWithin", "nights");
        QUESTIONS.put("temperatureAfter", "chamber openings");
        QUESTIONS.put("palletAt", "chamber row column");
        QUESTIONS.put("storeProblem", "pallet chamber row column");
        QUESTIONS.put("wayLength", "chamber row column");
        QUESTIONS.put("safeCells", "chamber goods");
        QUESTIONS.put("mostPairs", "chamber goods goods");
        QUESTIONS.put("availableFor", "order");
        QUESTIONS.put("textByte", "position");
    }

    private final Dice dice;
    private final ColdStores x = new ColdStores();
    private final Model m = new Model();
    /** The chamber whose rows and columns are asked for. */
    private Model.Room room;
    private final Map<String, Method> real = methods(ColdStores.class);
    private final Map<String, Method> plain = methods(Model.class);

    private ModelTest(int seed) {
        dice = new Dice(seed);
    }

    public static void main(String[] args) {
        int runs = args.length > 0 ? Integer.parseInt(args[0]) : 250;
        for (int seed = 1; seed <= runs; seed++) {
            new ModelTest(seed).run(seed);
        }
        for (int seed = 1; seed <= runs; seed++) {
            new ModelTest(seed).readTexts(seed);
        }
        c.end("ModelTest");
    }

    private static Map<String, Method> methods(Class<?> owner) {
        Map<String, Method> all = new LinkedHashMap<>();
        for (Method method : owner.getDeclaredMethods()) {
            method.setAccessible(true);
            all.put(method.getName(), method);
        }
        return all;
    }

    /** At most 512 calls, as the document allows an object, with another text after half of them. */
    private void run(int seed) {
        StringBuilder story = new StringBuilder("seed " + seed);
        int calls = load(story);
        for (; calls < 230; calls++) {
            callOne(story);
        }
        calls += load(story);
        for (; calls < 512; calls++) {
            callOne(story);
        }
    }

    /** Loads a text in place of what there is; answers the number of calls. */
    private int load(StringBuilder story) {
        String text = new Texts(dice).valid();
        Checks.feed(x, text);
        for (char sign : text.toCharArray()) {
            m.append(sign);
        }
        story.append(" ").append(text);
        c.same(story + " errorPosition", x.errorPosition(), m.errorPosition());
        c.same(story + " load", x.load(), m.load());
        return (text.length() + 19) / 20 + 2;
    }

    private void callOne(StringBuilder story) {
        boolean change = dice.below(100) < 40;
        Map<String, String> kind = change ? CHANGES : QUESTIONS;
        String name = dice.one(kind.keySet().toArray(new String[0]));
        if (name.equals("advance") && dice.below(3) > 0 || name.equals("undo") && dice.below(2) > 0
                || name.equals("restore") && dice.below(4) > 0) {
            name = dice.one("store", "autoStore", "shift");
        }
        compare(story, name, arguments(kind.containsKey(name) ? kind.get(name) : CHANGES.get(name)));
    }

    private void compare(StringBuilder story, String name, Object[] arguments) {
        if (name.equals("mostPairs") && tooManyPairs(arguments)) {
            return;
        }
        String got = answer(x, real.get(name), arguments);
        String due = answer(m, plain.get(name), arguments);
        String call = name + java.util.Arrays.toString(arguments);
        if (CHANGES.containsKey(name) && !due.endsWith("Exception")) {
            story.append("\n ").append(call).append(" ").append(due);
        }
        c.sameText(got.equals(due) ? call : story + "\n" + call, got, due);
    }

    /** The model tries all sets of cells for the first goods. */
    private boolean tooManyPairs(Object[] a) {
        int chamber = (int) a[0];
        int goods = (int) a[1];
        return chamber >= 0 && chamber < m.chamberCount() && goods >= 0 && goods < m.goodsCount()
                && Integer.bitCount(m.safeCells(chamber, goods)) > 15;
    }

    private static String answer(Object object, Method method, Object[] arguments) {
        try {
            return String.valueOf(method.invoke(object, arguments));
        } catch (InvocationTargetException e) {
            return e.getCause().getClass().getName();
        } catch (IllegalAccessException e) {
            throw new IllegalStateException(e);
        }
    }

    private Object[] arguments(String kinds) {
        if (kinds.isEmpty()) {
            return new Object[0];
        }
        String[] all = kinds.split(" ");
        Object[] arguments = new Object[all.length];
        room = m.now.rooms.isEmpty() ? null : m.now.rooms.get(dice.below(m.chamberCount()));
        for (int i = 0; i < all.length; i++) {
            int value = argument(all[i]);
            if (all[i].equals("chamber") && value < m.chamberCount()) {
                room = m.now.rooms.get(value);
            }
            if (all[i].equals("pallet") && value < m.palletCount() && m.stateOf(value) == 1) {
                room = m.now.rooms.get(m.chamberOf(value));
            }
            arguments[i] = dice.below(60) == 0
                    ? dice.one(new int[] {Integer.MIN_VALUE, Integer.MAX_VALUE, -1, -2, 100, 41})
                    : value;
        }
        return arguments;
    }

    private int argument(String kind) {
        switch (kind) {
            case "goods":
                return dice.below(Math.max(1, m.goodsCount()));
            case "pallet":
                int waiting = m.waitingCount();
                if (waiting > 0 && dice.below(2) == 0) {
                    return m.waitingPallet(dice.below(waiting));
                }
                return dice.below(Math.max(1, m.palletCount()));
            case "chamber":
                return dice.below(Math.max(1, m.chamberCount()));
            case "order":
                return dice.below(Math.max(1, m.orderCount()));
            case "row":
                return room == null ? 0 : dice.below(room.rows + dice.below(2));
            case "column":
                return room == null ? 0 : dice.below(room.columns + dice.below(2));
            case "temperature":
                return dice.below(3) == 0 ? dice.below(54) - 32 : dice.below(10);
            case "days":
                return dice.below(4) == 0 ? dice.below(63) : dice.below(4);
            case "nights":
                return dice.below(102);
            case "openings":
                return dice.below(101);
            case "what":
                return dice.below(5) - (dice.below(10) == 0 ? 1 : 0);
            case "position":
                return dice.below(m.textLength() + 2);
            default:
                return dice.below(8);
        }
    }

    private void readTexts(int seed) {
        Texts texts = new Texts(dice);
        for (int i = 0; i < 40; i++) {
            String text = texts.broken();
            x.truncate(0);
            m.truncate(0);
            Checks.feed(x, text);
            for (char sign : text.toCharArray()) {
                m.append(sign);
            }
            c.same("seed " + seed + " errorPosition of " + text, x.errorPosition(), m.errorPosition());
        }
    }

    /** The same numbers for the same seed. */
    static final class Dice {
        private long state;

        Dice(int seed) {
            state = seed * 7919L + 17;
        }

        int below(int bound) {
            state = state * 6364136223846793005L + 1442695040888963407L;
            return (int) Math.floorMod(state >>> 33, (long) bound);
        }

        String one(String... all) {
            return all[below(all.length)];
        }

        int one(int[] all) {
            return all[below(all.length)];
        }
    }

    /** Makes texts, valid ones and ones with an error. */
    static final class Texts {
        private final Dice dice;

        Texts(Dice dice) {
            this.dice = dice;
        }

        String valid() {
            StringBuilder text = new StringBuilder();
            int goods = 2 + dice.below(5);
            int chambers = 1 + dice.below(3);
            int warm = dice.below(8) - 4;
            for (int i = 0; i < chambers; i++) {
                int rows = 1 + dice.below(6);
                int columns = 1 + dice.below(4);
                add(text, "chamber k" + (char) ('a' + i) + " " + rows + " " + columns + " " + signed(warm));
                for (int doors = dice.below(4); doors > 0; doors--) {
                    add(text, "door k" + (char) ('a' + i) + " " + dice.below(rows) + " " + dice.below(columns));
                }
            }
            for (int i = 0; i < goods; i++) {
                int low = warm - dice.below(12);
                int high = Math.max(low, Math.min(20, warm + dice.below(14) - 4));
                int life = dice.below(3) == 0 ? 1 + dice.below(60) : 20 + dice.below(41);
                add(text, "goods g" + (char) ('a' + i) + " " + signed(low) + " " + signed(high) + " "
                        + life + " " + dice.below(10) + " " + (dice.below(2) * 4 + dice.below(6)));
            }
            for (int i = dice.below(9); i > 0; i--) {
                add(text, "pallet g" + (char) ('a' + dice.below(goods)));
            }
            for (int i = dice.below(8); i > 0; i--) {
                add(text, "order g" + (char) ('a' + dice.below(goods)) + " " + (1 + dice.below(3)) + " "
                        + dice.below(60));
            }
            if (dice.below(3) > 0) {
                add(text, "limits " + dice.below(1000) + " " + dice.below(100));
            }
            if (dice.below(3) > 0) {
                add(text, "quay " + signed(dice.below(20) - 5));
            }
            return text.length() > 900 ? valid() : text.toString();
        }

        private String signed(int number) {
            String space = dice.below(9) == 0 ? " " : "";
            return number < 0 ? "-" + space + -number : "" + number;
        }

        private void add(StringBuilder text, String statement) {
            text.append(text.length() > 0 ? ";" : "");
            text.append(dice.below(20) == 0 ? " " + statement + " " : statement);
        }

        String broken() {
            StringBuilder text = new StringBuilder(valid());
            for (int i = dice.below(3); i >= 0; i--) {
                int at = dice.below(text.length() + 1);
                int to = Math.min(text.length(), at + dice.below(4));
                String[] pieces = {"", "", " ", "  ", "-", ";", "0", "9", "99", "a", "goods", "chamber",
                    "pallet", "order", "door", "limits", "quay", "ka", "gb", "gaaaaa", "gbbbbbb", "A",
                    "\u00e9", "\n", "0001", "00001", "7", "21", "-31", "x", ";quay 4", ";limits 1 2",
                    ";chamber z 1 1 1", ";goods y 1 1 1 1 1", ";pallet ga", ";order ga 1 1",
                    ";door ka 0 0", ";order ga 0 1", ";order ga 1 366", "{", "`", "/", ":"};
                text.replace(at, to, dice.one(pieces));
            }
            if (dice.below(6) == 0) {
                String more = dice.one(";chamber zz 1 1 1", ";goods yy 1 1 1 1 1", ";pallet ga",
                        ";order ga 1 1", ";limits 1 2", ";quay 0");
                for (int i = 0; i < 11; i++) {
                    text.append(more.replace("zz", "z" + (char) ('a' + i))
                            .replace("yy", "y" + (char) ('a' + i)));
                }
            }
            text.setLength(Math.min(text.length(), 900));
            if (dice.below(4) == 0) {
                text.setLength(dice.below(text.length() + 1));
            }
            return text.toString();
        }
    }
}
