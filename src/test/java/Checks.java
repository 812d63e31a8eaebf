import java.io.IOException;
import java.lang.reflect.InvocationTargetException;
import java.lang.reflect.Method;
import java.lang.reflect.Modifier;
import java.util.Arrays;
import java.util.Comparator;
import java.util.NoSuchElementException;
import java.util.Set;
import java.util.TreeSet;

/** Counts the checks of one test program and tells of those that fail. */
final class Checks {
    /** A call whose answer is a number; a boolean counts 1 or 0. */
    interface Call {
        long answer();
    }

    /** A call with the number of something. */
    interface NumberedCall {
        long answer(int number);
    }

    private int right;
    private int wrong;
    /** The sentence of the document that the checks are about, if they told one. */
    private String sentence = "";
    private final Set<String> told = new TreeSet<>();
    private Doc doc;

    private void count(boolean holds, String otherwise) {
        if (holds) {
            right++;
        } else {
            wrong++;
            System.out.println(sentence + otherwise);
        }
    }

    void same(String what, long got, long due) {
        count(got == due, what + " answered " + got + ", due is " + due);
    }

    void yes(String what, boolean got) {
        same(what, got ? 1 : 0, 1);
    }

    void no(String what, boolean got) {
        same(what, got ? 1 : 0, 0);
    }

    void sameText(String what, String got, String due) {
        count(got.equals(due), what + " answered \"" + got + "\", due is \"" + due + "\"");
    }

    // ---- calls that are refused

    /** The call throws an exception of exactly this class. */
    void fails(String what, Class<? extends RuntimeException> due, Call call) {
        String got;
        try {
            got = "answered " + call.answer();
        } catch (RuntimeException e) {
            got = e.getClass() == due ? "" : "threw " + e;
        }
        count(got.isEmpty(), what + " " + got + ", due is " + due.getSimpleName());
    }

    void noIndex(String what, Call call) {
        fails(what, IndexOutOfBoundsException.class, call);
    }

    void badArgument(String what, Call call) {
        fails(what, IllegalArgumentException.class, call);
    }

    void badState(String what, Call call) {
        fails(what, IllegalStateException.class, call);
    }

    void noElement(String what, Call call) {
        fails(what, NoSuchElementException.class, call);
    }

    /** The call throws it, and nothing that can be asked about the object is changed. */
    private void refused(String what, Class<? extends RuntimeException> due, ColdStores x, Call call) {
        String before = facts(x);
        fails(what, due, call);
        sameText(what + " changes nothing", facts(x), before);
    }

    void noIndex(String what, ColdStores x, Call call) {
        refused(what, IndexOutOfBoundsException.class, x, call);
    }

    void badArgument(String what, ColdStores x, Call call) {
        refused(what, IllegalArgumentException.class, x, call);
    }

    void badState(String what, ColdStores x, Call call) {
        refused(what, IllegalStateException.class, x, call);
    }

    void noElement(String what, ColdStores x, Call call) {
        refused(what, NoSuchElementException.class, x, call);
    }

    /** The call has an answer for 0 to count - 1 and for no other number. */
    void numbers(String what, int count, NumberedCall call) {
        for (int number = 0; number < count; number++) {
            try {
                call.answer(number);
                right++;
            } catch (RuntimeException e) {
                count(false, what + " " + number + " threw " + e);
            }
        }
        int[] others = {Integer.MIN_VALUE, -256, -2, -1, count, count + 1, count + 256, Integer.MAX_VALUE};
        for (int other : others) {
            noIndex(what + " " + other, () -> call.answer(other));
        }
    }

    // ---- texts

    void error(String text, int due) {
        same("errorPosition of \"" + text + "\"", errorIn(text), due);
    }

    void valid(String text) {
        error(text, ColdStores.NONE);
    }

    /** The first error is at the sign ^, which is not part of the text. */
    void at(String marked) {
        error(marked.replace("^", ""), marked.indexOf('^'));
    }

    // ---- tests of single sentences

    /** Tells the sentence of the document that the following checks are about. */
    void about(String part, String words) {
        sentence = "";
        yes(part + " says \"" + words + "\"", doc != null && doc.says(part, words));
        sentence = "[" + part + ": " + words + "] ";
        told.add(part + " " + Doc.plain(words));
    }

    /** Runs every test of a class; each tells a sentence and checks it. */
    void runAll(Class<?> tests) throws IOException {
        doc = new Doc();
        Method[] methods = tests.getDeclaredMethods();
        Arrays.sort(methods, Comparator.comparing(Method::getName));
        for (Method method : methods) {
            if (method.getParameterCount() == 0 && method.getReturnType() == void.class
                    && Modifier.isStatic(method.getModifiers()) && !method.isSynthetic()) {
                run(method);
            }
        }
        sentence = "";
    }

    private void run(Method method) {
        sentence = "";
        int before = right + wrong;
        try {
            method.setAccessible(true);
            method.invoke(null);
        } catch (InvocationTargetException e) {
            count(false, method.getName() + " threw " + e.getCause());
        } catch (IllegalAccessException e) {
            count(false, method.getName() + " cannot be called");
        }
        boolean tells = !sentence.isEmpty();
        sentence = "";
        yes(method.getName() + " tells its sentence and checks it", tells && right + wrong > before + 1);
    }

    /** Every answer, refusal and range of the promises first to last had a test of its own. */
    void covered(int first, int last) {
        for (int promise = first; promise <= last; promise++) {
            for (String line : doc.needed("Promise " + promise)) {
                yes("a test of \"" + line + "\" of promise " + promise,
                        told.contains("Promise " + promise + " " + line));
            }
        }
    }

    /** Ends the program, with 1 if a check failed. */
    void end(String name) {
        System.out.println(name + ": " + right + " checks hold, " + wrong + " fail");
        if (wrong > 0 || right == 0) {
            System.exit(1);
        }
    }

    // ---- objects to test

    /** Appends a text of characters 0 to 255; answers the last length, or that of no bytes. */
    static int feed(ColdStores x, String text) {
        int length = 0;
        for (int i = 0; i == 0 || i < text.length(); i += 20) {
            length = x.append(word(text, i), word(text, i + 4), word(text, i + 8),
                    word(text, i + 12), word(text, i + 16));
        }
        return length;
    }

    private static int word(String text, int from) {
        int word = 0;
        for (int i = from; i < from + 4; i++) {
            word = word << 8 | (i < text.length() ? text.charAt(i) : 0);
        }
        return word;
    }

    static ColdStores loaded(String text) {
        ColdStores x = new ColdStores();
        feed(x, text);
        x.load();
        return x;
    }

    /** The error position of a text in a new object. */
    static int errorIn(String text) {
        ColdStores x = new ColdStores();
        feed(x, text);
        return x.errorPosition();
    }

    static String textOf(ColdStores x) {
        StringBuilder text = new StringBuilder();
        int length = x.textLength();
        for (int i = 0; i < length; i++) {
            text.append((char) x.textByte(i));
        }
        return text.toString();
    }

    /** All that can be asked about the object but for its history. */
    static String present(ColdStores x) {
        StringBuilder all = new StringBuilder(textOf(x));
        all.append(" day ").append(x.currentDay()).append(" spoiled ").append(x.spoiledCount());
        all.append(" shipped ").append(x.shippedCount()).append(" discarded ").append(x.discardedCount());
        for (int i = 0; i < x.waitingCount(); i++) {
            all.append(" w").append(x.waitingPallet(i));
        }
        for (int i = 0; i < x.palletCount(); i++) {
            all.append("\n").append(x.goodsOf(i)).append(" ").append(x.stateOf(i)).append(" ")
                    .append(x.chamberOf(i)).append(" ").append(x.cellOf(i)).append(" ")
                    .append(x.arrivalDay(i)).append(" ").append(x.heat(i)).append(" ")
                    .append(x.taint(i)).append(" ").append(x.isSpoiled(i));
        }
        for (int i = 0; i < x.chamberCount(); i++) {
            all.append("\n").append(x.setpoint(i)).append(" ").append(x.temperature(i)).append(" ")
                    .append(x.openings(i)).append(" ").append(x.reachableCells(i));
        }
        for (int i = 0; i < x.orderCount(); i++) {
            all.append(" o").append(x.order(i, 3));
        }
        return all.toString();
    }

    /** The same, the length of the input buffer, and how many changes can be undone. */
    static String facts(ColdStores x) {
        return present(x) + " undo " + x.undoCount() + " buffer " + x.append(0, 0, 0, 0, 0);
    }
}
