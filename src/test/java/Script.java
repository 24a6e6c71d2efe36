import java.lang.reflect.InvocationTargetException;
import java.lang.reflect.Method;
import java.util.Arrays;

/**
 * Runs calls that are written as text, a line each, and compares their answers.
 *
 * <p>A line is "name arguments = answer", with an exception's simple name as the answer of a call that throws it.
 * Besides the calls of the class there are: "new" (a new object), "put WORD" (makes a text of the word, through the
 * typed row), "spell WORD" (the word stands in the typed row, nothing else), "row = WORD" (what the typed row holds)
 * and "holds N = WORD" (what a text holds). What stands behind a '#' is not read.
 */
final class Script {
    private static final long LONGEST_RUN_MS = 300_000;
    private static final Method[] FACE = Suffixshelf.class.getDeclaredMethods();

    private final String name;
    private Suffixshelf shelf = new Suffixshelf();
    private int asked;
    private int wrong;

    Script(String name) {
        this.name = name;
        Thread watch = new Thread(Script::stopLate);
        watch.setDaemon(true);
        watch.start();
    }

    /** A call that never ends fails the test, too. */
    private static void stopLate() {
        try {
            Thread.sleep(LONGEST_RUN_MS);
        } catch (InterruptedException e) {
            return;
        }
        System.out.println("a call does not end");
        Runtime.getRuntime().halt(1);
    }

    void run(String lines) {
        lines.lines().forEach(this::runLine);
    }

    void expect(String call, String due, String got) {
        asked++;
        if (!due.equals(got)) {
            wrong++;
            System.out.println(name + ": " + call + " answered " + got + ", due is " + due);
        }
    }

    void end() {
        System.out.println(name + ": " + asked + " answers, " + wrong + " wrong");
        if (wrong != 0 || asked == 0) {
            System.exit(1);
        }
    }

    int wrong() {
        return wrong;
    }

    private void runLine(String raw) {
        String line = raw.replaceFirst("#.*", "").strip();
        if (line.isEmpty()) {
            return;
        }
        int sign = line.indexOf('=');
        String call = sign < 0 ? line : line.substring(0, sign).strip();
        String got = answer(call);
        if (sign >= 0) {
            expect(call, line.substring(sign + 1).strip(), got);
        } else if (got.endsWith("Exception")) {
            expect(call, "no exception", got);
        }
    }

    String answer(String call) {
        String[] words = call.split(" +");
        switch (words[0]) {
            case "new":
                shelf = new Suffixshelf();
                return "";
            case "put":
                spell(words.length > 1 ? words[1] : "");
                return answer("text");
            case "spell":
                spell(words.length > 1 ? words[1] : "");
                return "";
            case "row":
                return row();
            case "holds":
                return held(Integer.parseInt(words[1]));
            default:
                return called(words);
        }
    }

    private void spell(String word) {
        shelf.wipe();
        for (int i = 0; i < word.length(); i++) {
            shelf.type(word.charAt(i));
        }
    }

    private String row() {
        StringBuilder held = new StringBuilder();
        for (int i = 0; i <= 65; i++) {
            String sign = answer("typed " + i);
            if (sign.length() != 1) {
                return held.toString();
            }
            held.append(sign);
        }
        return held + "and more";
    }

    private String held(int text) {
        StringBuilder held = new StringBuilder();
        int length = shelf.length(text);
        for (int i = 0; i < length; i++) {
            held.append(shelf.signAt(text, i));
        }
        return held.toString();
    }

    private String called(String[] words) {
        Method method = method(words[0]);
        Class<?>[] types = method.getParameterTypes();
        if (types.length != words.length - 1) {
            throw new IllegalArgumentException("arguments: " + Arrays.toString(words));
        }
        Object[] arguments = new Object[types.length];
        for (int i = 0; i < types.length; i++) {
            arguments[i] = types[i] == char.class ? (Object) sign(words[i + 1]) : Integer.valueOf(words[i + 1]);
        }
        try {
            return String.valueOf(method.invoke(shelf, arguments));
        } catch (InvocationTargetException e) {
            return e.getCause().getClass().getSimpleName();
        } catch (IllegalAccessException e) {
            return "no access";
        }
    }

    /** A sign stands for itself, or by its number behind a backslash. */
    private static Character sign(String word) {
        if (word.length() > 1 && word.charAt(0) == '\\') {
            return (char) Integer.parseInt(word.substring(1));
        }
        return word.charAt(0);
    }

    private static Method method(String name) {
        for (Method method : FACE) {
            if (method.getName().equals(name)) {
                return method;
            }
        }
        throw new IllegalArgumentException("no call " + name);
    }
}
