import java.io.IOException;
import java.lang.reflect.Constructor;
import java.lang.reflect.Field;
import java.lang.reflect.Method;
import java.lang.reflect.Modifier;
import java.nio.charset.StandardCharsets;
import java.nio.file.Files;
import java.nio.file.Path;
import java.util.Set;
import java.util.TreeSet;
import java.util.regex.Matcher;
import java.util.regex.Pattern;

/** The public face of the document, and what LANGUAGE.md rules out. */
public final class FaceTest {
    private static final Checks c = new Checks();

    private static final String INDEX = " IndexOutOfBoundsException";
    private static final String ARGUMENT = " IllegalArgumentException";
    private static final String STATE = " IllegalStateException";
    private static final String ELEMENT = " NoSuchElementException";
    private static final String[] FACE = {
        "int append 5" + STATE, "int truncate 1" + ARGUMENT, "int errorPosition 0",
        "int load 0" + ARGUMENT, "int arrive 1" + INDEX + STATE,
        "int store 4" + INDEX + ARGUMENT + STATE, "int retrieve 1" + INDEX + STATE,
        "int shift 3" + INDEX + ARGUMENT + STATE, "int ship 1" + INDEX + STATE,
        "int discard 1" + INDEX + STATE, "int autoStore 0", "int serve 1" + INDEX + STATE,
        "int setSetpoint 2" + INDEX + ARGUMENT, "int advance 1" + ARGUMENT, "int chamberCount 0",
        "int goodsCount 0", "int palletCount 0", "int orderCount 0", "int currentDay 0",
        "int waitingCount 0", "int waitingPallet 1" + INDEX, "int order 2" + INDEX + ARGUMENT,
        "int shippedCount 0", "int discardedCount 0", "int lowestTemperature 1" + INDEX,
        "int highestTemperature 1" + INDEX, "int shelfLife 1" + INDEX, "boolean taints 2" + INDEX,
        "int zonesNeeded 0", "int zoneTemperature 1" + INDEX, "int goodsOf 1" + INDEX,
        "int stateOf 1" + INDEX, "int chamberOf 1" + INDEX, "int cellOf 1" + INDEX,
        "int arrivalDay 1" + INDEX, "int heat 1" + INDEX, "int taint 1" + INDEX,
        "boolean isSpoiled 1" + INDEX, "int daysLeft 1" + INDEX + STATE + ELEMENT,
        "int spoiledCount 0", "int spoilsWithin 1" + ARGUMENT, "int setpoint 1" + INDEX,
        "int temperature 1" + INDEX, "int temperatureAfter 2" + INDEX + ARGUMENT,
        "int openings 1" + INDEX, "int palletAt 3" + INDEX + ARGUMENT,
        "int storeProblem 4" + INDEX + ARGUMENT, "int wayLength 3" + INDEX + ARGUMENT + ELEMENT,
        "int reachableCells 1" + INDEX, "int safeCells 2" + INDEX,
        "int obstacles 1" + INDEX + STATE + ELEMENT, "int mostPairs 3" + INDEX + ARGUMENT,
        "int bestSetpoint 1" + INDEX, "int availableFor 1" + INDEX, "int textLength 0",
        "int textByte 1" + INDEX, "int undo 0" + STATE, "int undoCount 0", "int save 0",
        "int restore 0" + STATE,
    };

    public static void main(String[] args) throws IOException {
        members();
        nested();
        source();
        c.end("FaceTest");
    }

    private static void members() {
        Set<String> due = new TreeSet<>(Set.of(FACE));
        Set<String> got = new TreeSet<>();
        Set<String> hidden = new TreeSet<>();
        Set<String> names = new TreeSet<>();
        for (String line : FACE) {
            names.add(line.split(" ")[1]);
        }
        for (Method method : ColdStores.class.getDeclaredMethods()) {
            if (Modifier.isPrivate(method.getModifiers())) {
                if (names.contains(method.getName())) {
                    hidden.add(method.getName());
                }
            } else {
                StringBuilder line = new StringBuilder(method.getReturnType() + " " + method.getName()
                        + " " + method.getParameterCount());
                for (Class<?> thrown : method.getExceptionTypes()) {
                    line.append(" ").append(thrown.getSimpleName());
                }
                c.same(method.getName() + "'s modifiers", method.getModifiers(), Modifier.PUBLIC);
                for (Class<?> type : method.getParameterTypes()) {
                    c.yes(method.getName() + " takes ints", type == int.class);
                }
                got.add(line.toString());
            }
        }
        c.sameText("the methods", got.toString(), due.toString());
        c.sameText("private methods with public names", hidden.toString(), "[]");
        c.same("the class's modifiers", ColdStores.class.getModifiers(), Modifier.PUBLIC | Modifier.FINAL);
        Constructor<?>[] makers = ColdStores.class.getDeclaredConstructors();
        c.same("constructors", makers.length, 1);
        c.same("the constructor's modifiers", makers[0].getModifiers(), Modifier.PUBLIC);
        c.same("the constructor's parameters", makers[0].getParameterCount(), 0);
        for (Field field : ColdStores.class.getDeclaredFields()) {
            int modifiers = field.getModifiers();
            boolean none = field.getName().equals("NONE");
            c.yes("field " + field.getName(), none ? modifiers
                    == (Modifier.PUBLIC | Modifier.STATIC | Modifier.FINAL) : Modifier.isPrivate(modifiers));
            c.yes("static " + field.getName(), !Modifier.isStatic(modifiers) || Modifier.isFinal(modifiers));
        }
        c.same("NONE", ColdStores.NONE, -1);
    }

    private static void nested() {
        Class<?>[] all = ColdStores.class.getDeclaredClasses();
        c.yes("at most some twelve classes", all.length + 1 <= 12);
        for (Class<?> one : all) {
            int modifiers = one.getModifiers();
            c.yes(one.getName() + " is hidden and static", Modifier.isStatic(modifiers)
                    && !Modifier.isPublic(modifiers) && !Modifier.isProtected(modifiers));
            int fields = 0;
            for (Field field : one.getDeclaredFields()) {
                fields += Modifier.isStatic(field.getModifiers()) ? 0 : 1;
            }
            c.yes(one.getName() + " has at most twenty fields", fields <= 20);
            for (Method method : one.getDeclaredMethods()) {
                c.yes(method.getName() + " takes at most seven", method.getParameterCount() <= 7);
                for (String line : FACE) {
                    c.no(one.getName() + "." + method.getName() + " bears a public name",
                            line.split(" ")[1].equals(method.getName()));
                }
            }
        }
    }

    private static void source() throws IOException {
        byte[] bytes = Files.readAllBytes(Path.of("src/main/java/ColdStores.java"));
        String text = new String(bytes, StandardCharsets.ISO_8859_1);
        boolean plain = true;
        for (byte b : bytes) {
            plain &= b == '\n' || b >= 32 && b < 127;
        }
        c.yes("only plain characters", plain);
        String code = text.replaceAll("(?s)/\\*.*?\\*/", "").replaceAll("//[^\n]*", "")
                .replaceAll("\"[^\"]*\"", "\"\"");
        for (String word : ("try catch finally assert synchronized instanceof record lambda float double"
                + " protected volatile native goto Object Thread System.out").split(" ")) {
            c.no("the source has " + word, Pattern.compile("\\b" + Pattern.quote(word) + "\\b")
                    .matcher(code).find());
        }
        c.no("a lambda", code.contains("->"));
        c.no("a method reference", code.contains("::"));
        Matcher imports = Pattern.compile("import [^;]*;").matcher(code);
        StringBuilder found = new StringBuilder();
        while (imports.find()) {
            found.append(imports.group());
        }
        c.sameText("imports", found.toString(),
                "import java.util.Arrays;import java.util.NoSuchElementException;");
        lengths(code);
    }

    /** A method begins at an indented line that ends with a brace and has no control word. */
    private static void lengths(String code) {
        String[] lines = code.split("\n");
        for (int i = 0; i < lines.length; i++) {
            Matcher begin = Pattern.compile("^( {4}| {8})[a-zA-Z].*\\).*\\{$").matcher(lines[i]);
            if (begin.matches()) {
                int end = i;
                while (!lines[end].equals(begin.group(1) + "}")) {
                    end++;
                }
                c.yes("a short method: " + lines[i], end - i < 60);
            }
        }
    }
}
