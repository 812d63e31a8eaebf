/** Counts the checks of one test program and tells of those that fail. */
final class Checks {
    /** A call whose answer is a number; a boolean counts 1 or 0. */
    interface Call {
        long answer();
    }

    private int right;
    private int wrong;

    void same(String what, long got, long due) {
        if (got == due) {
            right++;
        } else {
            wrong++;
            System.out.println(what + " answered " + got + ", due is " + due);
        }
    }

    void yes(String what, boolean got) {
        same(what, got ? 1 : 0, 1);
    }

    void no(String what, boolean got) {
        same(what, got ? 1 : 0, 0);
    }

    /** The call throws an exception of exactly this class. */
    void fails(String what, Class<? extends RuntimeException> due, Call call) {
        String got;
        try {
            got = "answered " + call.answer();
        } catch (RuntimeException e) {
            if (e.getClass() == due) {
                right++;
                return;
            }
            got = "threw " + e;
        }
        wrong++;
        System.out.println(what + " " + got + ", due is " + due.getSimpleName());
    }

    void noIndex(String what, Call call) {
        fails(what, IndexOutOfBoundsException.class, call);
    }

    void badArgument(String what, Call call) {
        fails(what, IllegalArgumentException.class, call);
    }

    void badState(String what, Call call) {
        fails(what, IllegalStateException.class, call);
    }

    void noElement(String what, Call call) {
        fails(what, java.util.NoSuchElementException.class, call);
    }

    /** Ends the program, with 1 if a check failed. */
    void end(String name) {
        System.out.println(name + ": " + right + " checks hold, " + wrong + " fail");
        if (wrong > 0 || right == 0) {
            System.exit(1);
        }
    }

    /** Appends a text of characters 0 to 255; answers the last length, or that of no bytes. */
    static int feed(ColdStores x, String text) {
        int length = 0;
        for (int i = 0; i == 0 || i < text.length(); i += 20) {
            length = x.append(word(text, i), word(text, i + 4), word(text, i + 8),
                    word(text, i + 12), word(text, i + 16));
        }
        return length;
    }

    private static int word(String text, int from) {
        int word = 0;
        for (int i = from; i < from + 4; i++) {
            word = word << 8 | (i < text.length() ? text.charAt(i) : 0);
        }
        return word;
    }

    static ColdStores loaded(String text) {
        ColdStores x = new ColdStores();
        feed(x, text);
        x.load();
        return x;
    }

    /** The error position of a text in a new object. */
    static int errorIn(String text) {
        ColdStores x = new ColdStores();
        feed(x, text);
        return x.errorPosition();
    }

    static String textOf(ColdStores x) {
        StringBuilder text = new StringBuilder();
        int length = x.textLength();
        for (int i = 0; i < length; i++) {
            text.append((char) x.textByte(i));
        }
        return text.toString();
    }

    void sameText(String what, String got, String due) {
        if (got.equals(due)) {
            right++;
        } else {
            wrong++;
            System.out.println(what + " answered \"" + got + "\", due is \"" + due + "\"");
        }
    }
}
