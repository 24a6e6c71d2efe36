import java.lang.reflect.InvocationTargetException;
import java.lang.reflect.Method;
import java.util.ArrayList;
import java.util.Arrays;
import java.util.List;
import java.util.NoSuchElementException;
import java.util.Set;

/**
 * Runs calls that are written as text, a line each, and compares their answers.
 *
 * <p>A line is "name arguments = answer", with an exception's simple name as the answer of a call that throws it.
 * Besides the calls of the class there are: "new" (a new object), "put WORD" (makes a text of the word, through the
 * typed row), "spell WORD" (the word stands in the typed row, nothing else), "row = WORD" (what the typed row holds)
 * and "holds N = WORD" (what a text holds). What stands behind a '#' is not read.
 *
 * <p>An argument may be several, "0|3|9" or "0..5": then there is a call for each, and either one answer for all of
 * them or as many answers, "a|b|c". A WORD may be put together: "ab*3+c" is "abababc".
 *
 * <p>After each call that throws, and each that only asks, all that the object tells must be as it was before.
 */
final class Script {
    private static final long LONGEST_RUN_MS = 300_000;
    private static final Method[] FACE = Suffixshelf.class.getDeclaredMethods();
    private static final Set<String> CHANGING = Set.of("type", "typeMore", "wipe", "text", "take", "join", "mirror",
        "change", "ahead", "chop", "word", "longestIn", "column", "undo");
    private static final Set<String> WITH_WORD = Set.of("put", "spell");
    private static final Set<String> ANSWERED_BY_WORD = Set.of("row", "holds");

    private final String name;
    private final List<String> answers = new ArrayList<>();
    private String heading = "";
    private Suffixshelf shelf = new Suffixshelf();
    private int asked;
    private int wrong;

    Script(String name) {
        this.name = name;
        Thread watch = new Thread(Script::stopLate);
        watch.setDaemon(true);
        watch.start();
    }

    /** A call that never ends fails the test, too. */
    private static void stopLate() {
        try {
            Thread.sleep(LONGEST_RUN_MS);
        } catch (InterruptedException e) {
            return;
        }
        System.out.println("a call does not end");
        Runtime.getRuntime().halt(1);
    }

    void run(String lines) {
        lines.lines().forEach(this::runLine);
    }

    /** What is asked from here on stands under this heading. */
    void under(String next) {
        heading = next;
        answers.clear();
    }

    /** "name answer" of each call under this heading. */
    List<String> answers() {
        return answers;
    }

    void expect(String call, String due, String got) {
        asked++;
        if (!due.equals(got)) {
            wrong++;
            String where = heading.isEmpty() ? name : name + ", " + heading;
            System.out.println(where + ": " + call + " answered " + got + ", due is " + due);
        }
    }

    void end() {
        System.out.println(name + ": " + asked + " answers, " + wrong + " wrong");
        if (wrong != 0 || asked == 0) {
            System.exit(1);
        }
    }

    int wrong() {
        return wrong;
    }

    private void runLine(String raw) {
        String line = raw.replaceFirst("#.*", "").strip();
        if (line.isEmpty()) {
            return;
        }
        int sign = line.indexOf('=');
        List<String> calls = calls((sign < 0 ? line : line.substring(0, sign)).strip().split(" +"));
        String[] due = sign < 0 ? new String[0] : line.substring(sign + 1).strip().split("\\|", -1);
        if (due.length > 1 && due.length != calls.size()) {
            throw new IllegalArgumentException(calls.size() + " calls: " + line);
        }
        for (int i = 0; i < calls.size(); i++) {
            String call = calls.get(i);
            String got = answer(call);
            if (sign >= 0) {
                String own = due.length > 1 ? due[i] : due[0];
                expect(call, ANSWERED_BY_WORD.contains(call.split(" ")[0]) ? wordOf(own) : own, got);
            } else if (got.endsWith("Exception")) {
                expect(call, "no exception", got);
            }
        }
    }

    /** All calls of a line; what varies last in it varies fastest. */
    private static List<String> calls(String[] words) {
        List<String> calls = List.of(words[0]);
        for (int i = 1; i < words.length; i++) {
            List<String> longer = new ArrayList<>();
            for (String call : calls) {
                for (String argument : several(words[i])) {
                    longer.add(call + " " + (WITH_WORD.contains(words[0]) ? wordOf(argument) : argument));
                }
            }
            calls = longer;
        }
        return calls;
    }

    private static List<String> several(String argument) {
        List<String> found = new ArrayList<>();
        for (String one : argument.split("\\|")) {
            int dots = one.indexOf("..");
            if (dots < 0) {
                found.add(one);
            } else {
                int last = Integer.parseInt(one.substring(dots + 2));
                for (int i = Integer.parseInt(one.substring(0, dots)); i <= last; i++) {
                    found.add(String.valueOf(i));
                }
            }
        }
        return found;
    }

    private static String wordOf(String written) {
        StringBuilder word = new StringBuilder();
        for (String piece : written.split("\\+")) {
            int star = piece.indexOf('*');
            word.append(star < 0 ? piece : piece.substring(0, star).repeat(Integer.parseInt(piece.substring(star + 1))));
        }
        return word.toString();
    }

    String answer(String call) {
        String[] words = call.split(" +");
        switch (words[0]) {
            case "new":
                shelf = new Suffixshelf();
                return "";
            case "put":
                spell(words.length > 1 ? words[1] : "");
                return answer("text");
            case "spell":
                spell(words.length > 1 ? words[1] : "");
                return "";
            case "row":
                return row();
            case "holds":
                return held(Integer.parseInt(words[1]));
            default:
                return called(words);
        }
    }

    private void spell(String word) {
        shelf.wipe();
        for (int i = 0; i < word.length(); i++) {
            shelf.type(word.charAt(i));
        }
    }

    private String row() {
        StringBuilder held = new StringBuilder();
        try {
            for (int i = 0; i <= 65; i++) {
                held.append(shelf.typed(i));
            }
        } catch (NoSuchElementException e) {
            return held.toString();
        }
        return held + " and more";
    }

    private String held(int text) {
        StringBuilder held = new StringBuilder();
        int length = shelf.length(text);
        for (int i = 0; i < length; i++) {
            held.append(shelf.signAt(text, i));
        }
        return held.toString();
    }

    private int texts() {
        int known = 0;
        try {
            for (; known <= 8; known++) {
                shelf.length(known);
            }
        } catch (IndexOutOfBoundsException e) {
            return known;
        }
        return known;
    }

    /** What the typed row and the texts hold. */
    String state() {
        StringBuilder state = new StringBuilder(row());
        int texts = texts();
        for (int text = 0; text < texts; text++) {
            state.append('/').append(held(text));
        }
        return state.toString();
    }

    /** The order of all ends, too; looking does no harm, as the class counts no calls. */
    private String told() {
        StringBuilder told = new StringBuilder(state());
        int texts = texts();
        for (int text = 0; text < texts; text++) {
            int length = shelf.length(text);
            for (int i = 0; i < length; i++) {
                told.append(' ').append(shelf.endAt(text, i)).append(' ').append(shelf.rankOf(text, i))
                    .append(' ').append(shelf.common(text, i));
            }
        }
        return told.toString();
    }

    private String called(String[] words) {
        Method method = method(words[0]);
        Class<?>[] types = method.getParameterTypes();
        if (types.length != words.length - 1) {
            throw new IllegalArgumentException("arguments: " + Arrays.toString(words));
        }
        Object[] arguments = new Object[types.length];
        for (int i = 0; i < types.length; i++) {
            arguments[i] = types[i] == char.class ? (Object) sign(words[i + 1]) : Integer.valueOf(words[i + 1]);
        }
        String before = told();
        String answer = invoked(method, arguments);
        answers.add(words[0] + " " + answer);
        if (answer.endsWith("Exception") || !CHANGING.contains(words[0])) {
            String after = told();
            if (!after.equals(before)) {
                expect("the state behind " + String.join(" ", words) + " (" + answer + ")", before, after);
            }
        }
        return answer;
    }

    private String invoked(Method method, Object[] arguments) {
        try {
            return String.valueOf(method.invoke(shelf, arguments));
        } catch (InvocationTargetException e) {
            return e.getCause().getClass().getSimpleName();
        } catch (IllegalAccessException e) {
            return "no access";
        }
    }

    /** A sign stands for itself, or by its number behind a backslash. */
    private static Character sign(String word) {
        if (word.length() > 1 && word.charAt(0) == '\\') {
            return (char) Integer.parseInt(word.substring(1));
        }
        return word.charAt(0);
    }

    private static Method method(String name) {
        for (Method method : FACE) {
            if (method.getName().equals(name)) {
                return method;
            }
        }
        throw new IllegalArgumentException("no call " + name);
    }
}
