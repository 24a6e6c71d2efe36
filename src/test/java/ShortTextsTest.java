import java.util.ArrayList;
import java.util.List;

/**
 * Every call on every short text of a few signs, with every rank, place, row or number there and one beyond either
 * end; every short word looked for in these texts; every short row turned back; and some texts together. The answer of
 * each is compared with the model's.
 */
public final class ShortTextsTest {
    private static final String[] OF_TEXT = {"length", "rounds", "words", "twice", "twiceAt", "once", "onceAt", "runs",
        "squares", "period", "turnAt", "parts", "pieces", "fewest", "commonShare", "meanCommon", "column", "take"};
    private static final String[] OF_PLACE = {"signAt", "endAt", "rankOf", "common", "first", "last", "back", "front",
        "squareAt", "partAt", "pieceLength", "pieceFrom", "classes", "standsAt", "tail"};
    private static final String[] OF_WORD = {"count 0", "runFrom 0", "numberOf 0"};
    private static final String[] CHANGING = {"mirror 0", "join 0 0", "chop 0", "ahead 0 a", "ahead 0 b", "ahead 0 z"};

    private final Script script = new Script("ShortTextsTest");
    private Model model = new Model();
    private String about = "";

    public static void main(String[] args) {
        ShortTextsTest test = new ShortTextsTest();
        test.script.expect("how many texts", "127/121", rows("ab", 6).size() + "/" + rows("bca", 4).size());
        rows("ab", 6).forEach(test::askAll);
        rows("bca", 4).forEach(test::askAll);
        rows("ab", 5).forEach(test::lookForAll);
        rows("ab$", 6).forEach(test::turnBack);
        rows("abz$", 4).forEach(test::turnBack);
        for (String one : rows("ab", 3)) {
            rows("ab", 3).forEach(two -> test.askTogether(one, two));
        }
        test.script.end();
    }

    /** All rows of these signs up to this length, the empty one first. */
    private static List<String> rows(String signs, int longest) {
        List<String> rows = new ArrayList<>(List.of(""));
        for (int i = 0; i < rows.size(); i++) {
            for (int sign = 0; rows.get(i).length() < longest && sign < signs.length(); sign++) {
                rows.add(rows.get(i) + signs.charAt(sign));
            }
        }
        return rows;
    }

    private void compare(String call) {
        script.expect(about + ": " + call, model.answer(call), script.answer(call));
    }

    private void begin(String... texts) {
        script.run("new");
        model = new Model();
        about = String.join("/", texts);
        for (String text : texts) {
            spell(text);
            compare("text");
        }
    }

    private void spell(String row) {
        compare("wipe");
        for (int i = 0; i < row.length(); i++) {
            compare("type " + row.charAt(i));
        }
    }

    private void compareState() {
        script.expect(about + ": the state", model.state(), script.state());
    }

    private void askAll(String text) {
        begin(text);
        for (String call : OF_TEXT) {
            compare(call + " 0");
            compareState();
        }
        for (int place = -1; place <= text.length() + 1; place++) {
            for (String call : OF_PLACE) {
                compare(call + " 0 " + place);
            }
            for (int signs = 0; signs <= text.length() + 1; signs++) {
                compare("classOf 0 " + place + " " + signs);
            }
        }
        compare("checksum");
        compare("isSound");
        askWords(text);
        for (String call : CHANGING) {
            changeBy(text, call);
        }
        for (int place = -1; place <= text.length(); place++) {
            changeBy(text, "change 0 " + place + " b");
        }
    }

    private void askWords(String text) {
        int words = Integer.parseInt(model.answer("words 0"));
        for (int number = -1; number <= words; number++) {
            compare("word 0 " + number);
            compareState();
        }
    }

    private void changeBy(String text, String call) {
        begin(text);
        compare(call);
        compareState();
        compare("checksum");
        compare("isSound");
    }

    private void lookForAll(String text) {
        begin(text);
        for (String word : rows("abc", 3)) {
            spell(word);
            for (String call : OF_WORD) {
                compare(call);
            }
            for (int number = -1; number <= 5; number++) {
                compare("standsAt 0 " + number);
                compare("tail 0 " + number);
            }
        }
    }

    private void turnBack(String row) {
        begin();
        about = row;
        spell(row);
        compare("undo");
        compareState();
    }

    private void askTogether(String one, String two) {
        begin(one, two);
        for (int many = 1; many <= 3; many++) {
            compare("longestIn " + many);
            compareState();
        }
        for (int place = -1; place <= one.length(); place++) {
            for (int other = -1; other <= two.length(); other++) {
                compare("shared 0 " + place + " 1 " + other);
            }
        }
        compare("join 0 1");
        compare("join 1 0");
        compareState();
        compare("checksum");
    }
}
