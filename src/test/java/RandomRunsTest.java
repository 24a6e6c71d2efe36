import java.util.ArrayList;
import java.util.List;
import java.util.Random;

/**
 * Runs of 512 chosen calls on new objects, as many as the document promises answers for, good and wrong ones. The
 * answer of each, and what the object holds behind it, is compared with the model's.
 */
public final class RandomRunsTest {
    private static final int RUNS = 150;
    private static final int CALLS = 512;
    private static final String[] ALPHABETS = {"a", "ab", "ab", "abc", "aez", "abcdefgh", "abcdefghijklmnopqrstuvwxyz"};
    private static final int[] EDGES = {-2147483648, -1, 0, 1, 2, 63, 64, 65, 66, 2080, 2147483647};
    private static final String ODD_SIGNS = "$A`{%~";
    private static final String[] OF_TEXT = {"take", "length", "mirror", "chop", "rounds", "count", "runFrom", "words",
        "numberOf", "twice", "twiceAt", "once", "onceAt", "runs", "column", "squares", "period", "turnAt", "parts",
        "pieces", "fewest", "commonShare", "meanCommon"};
    private static final String[] OF_PLACE = {"signAt", "endAt", "rankOf", "common", "standsAt", "tail", "word",
        "first", "last", "back", "front", "squareAt", "partAt", "pieceLength", "pieceFrom", "classes"};
    private static final String[] OTHERS = {"type", "typeMore", "wipe", "typed", "text", "join", "change", "ahead",
        "classOf", "shared", "longestIn", "undo", "checksum", "isSound"};

    private final Random chosen;
    private final Script script;
    private final String alphabet;
    private final List<String> planned = new ArrayList<>();
    private Model model = new Model();

    private RandomRunsTest(int run, Script script) {
        this.chosen = new Random(run);
        this.script = script;
        this.alphabet = ALPHABETS[run % ALPHABETS.length];
    }

    /** Takes another number of runs as an argument. */
    public static void main(String[] args) {
        int runs = args.length > 0 ? Integer.parseInt(args[0]) : RUNS;
        Script script = new Script("RandomRunsTest");
        for (int run = 0; run < runs && script.wrong() == 0; run++) {
            new RandomRunsTest(run, script).run(run);
        }
        script.end();
    }

    private void run(int run) {
        script.run("new");
        model = new Model();
        for (int call = 0; call < CALLS; call++) {
            if (planned.isEmpty()) {
                plan();
            }
            String next = planned.remove(0);
            String which = "run " + run + ", call " + call + ": " + next;
            script.expect(which, model.answer(next), script.answer(next));
            script.expect("the state behind " + which, model.state(), script.state());
        }
    }

    /** Plans some calls: a typed word, a new text, or any one call. */
    private void plan() {
        int kind = chosen.nextInt(20);
        if (kind == 0 || model.texts().isEmpty()) {
            planned.add("wipe");
            planWord(1 + chosen.nextInt(chosen.nextInt(3) == 0 ? 64 : 16));
            planned.add("text");
        } else if (kind == 1) {
            planned.add("wipe");
            planWord(1 + chosen.nextInt(4));
        } else if (kind == 2) {
            planned.add("column " + textNumber());
            planned.add("undo");
        } else {
            planned.add(anyCall());
        }
    }

    private void planWord(int length) {
        StringBuilder word = new StringBuilder();
        while (word.length() < length) {
            if (word.length() > 1 && chosen.nextInt(3) == 0) {
                int from = chosen.nextInt(word.length());
                word.append(word, from, from + 1 + chosen.nextInt(word.length() - from));
            } else {
                word.append(letter());
            }
        }
        for (int from = 0; from < length; from += 8) {
            StringBuilder call = new StringBuilder("typeMore " + Math.min(8, length - from));
            for (int i = from; i < from + 8; i++) {
                call.append(' ').append(i < length ? word.charAt(i) : '%');
            }
            planned.add(call.toString());
        }
    }

    private String anyCall() {
        int kind = chosen.nextInt(OF_TEXT.length + OF_PLACE.length + OTHERS.length);
        if (kind < OF_TEXT.length) {
            return OF_TEXT[kind] + " " + textNumber();
        }
        kind -= OF_TEXT.length;
        if (kind < OF_PLACE.length) {
            int text = textNumber();
            return OF_PLACE[kind] + " " + text + " " + (OF_PLACE[kind].equals("word") ? wordNumber() : place(text));
        }
        return other(OTHERS[kind - OF_PLACE.length]);
    }

    private String other(String name) {
        int text = textNumber();
        switch (name) {
            case "type":
                return "type " + sign();
            case "typeMore":
                StringBuilder call = new StringBuilder("typeMore " + edgeOrUpTo(8));
                for (int i = 0; i < 8; i++) {
                    call.append(' ').append(chosen.nextInt(4) == 0 ? sign() : letter());
                }
                return call.toString();
            case "typed":
                return "typed " + (chosen.nextInt(4) == 0 ? edge() : chosen.nextInt(model.typedRow().length() + 1));
            case "join":
                return "join " + text + " " + textNumber();
            case "change":
                return "change " + text + " " + place(text) + " " + sign();
            case "ahead":
                return "ahead " + text + " " + sign();
            case "classOf":
                return "classOf " + text + " " + place(text) + " " + edgeOrUpTo(9);
            case "shared":
                int second = textNumber();
                return "shared " + text + " " + place(text) + " " + second + " " + place(second);
            case "longestIn":
                return "longestIn " + edgeOrUpTo(model.texts().size() + 1);
            default:
                return name;
        }
    }

    private int edge() {
        return EDGES[chosen.nextInt(EDGES.length)];
    }

    private int edgeOrUpTo(int most) {
        return chosen.nextInt(8) == 0 ? edge() : 1 + chosen.nextInt(most);
    }

    private int textNumber() {
        return chosen.nextInt(20) == 0 ? edge() : chosen.nextInt(Math.max(1, model.texts().size()));
    }

    /** Now and then one too many. */
    private int place(int text) {
        boolean known = text >= 0 && text < model.texts().size();
        return !known || chosen.nextInt(12) == 0 ? edge() : chosen.nextInt(model.texts().get(text).length() + 1);
    }

    private int wordNumber() {
        return chosen.nextInt(8) == 0 ? edge() : chosen.nextInt(chosen.nextBoolean() ? 12 : 700);
    }

    private char letter() {
        return alphabet.charAt(chosen.nextInt(alphabet.length()));
    }

    private char sign() {
        return chosen.nextInt(10) == 0 ? ODD_SIGNS.charAt(chosen.nextInt(ODD_SIGNS.length())) : letter();
    }
}
