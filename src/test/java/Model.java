import java.util.ArrayList;
import java.util.Comparator;
import java.util.HashMap;
import java.util.List;
import java.util.Map;
import java.util.NoSuchElementException;
import java.util.TreeMap;
import java.util.TreeSet;

/** The document's words, taken literally and tried out on strings: slow, and written without a look at the class. */
final class Model {
    private static final Map<String, TreeMap<String, Integer>> WORDS = new HashMap<>();

    private final List<String> texts = new ArrayList<>();
    private String typed = "";

    List<String> texts() {
        return texts;
    }

    String typedRow() {
        return typed;
    }

    /** What the typed row and the texts hold, written as Script writes it. */
    String state() {
        StringBuilder state = new StringBuilder(typed);
        for (String text : texts) {
            state.append('/').append(text);
        }
        return state.toString();
    }

    /** The answer of a call, or the simple name of the exception. */
    String answer(String call) {
        String[] words = call.split(" +");
        try {
            return String.valueOf(called(words[0], words));
        } catch (RuntimeException e) {
            return e.getClass().getSimpleName();
        }
    }

    private Object called(String name, String[] words) {
        switch (name) {
            case "type":
                return type(words[1], 1);
            case "typeMore":
                int many = number(words, 1);
                if (many < 1 || many > 8) {
                    throw new IllegalArgumentException();
                }
                return type(String.join("", List.of(words).subList(2, 2 + many)), many);
            case "wipe":
                int had = typed.length();
                typed = "";
                return had;
            case "typed":
                int index = number(words, 1);
                if (index < 0 || index >= typed.length()) {
                    throw new NoSuchElementException();
                }
                return typed.charAt(index);
            case "text":
                if (typed.contains("$") || typed.length() > 64) {
                    throw new UnsupportedOperationException();
                }
                int made = added(typed);
                typed = "";
                return made;
            case "undo":
                return added(turnedBack());
            case "longestIn":
                return hold(longestIn(number(words, 1)));
            case "checksum":
                return checksum();
            case "isSound":
                return true;
            default:
                String text = textAt(number(words, 1));
                Object told = ofTexts(name, text, words);
                told = told != null ? told : ofOrder(name, text, words);
                told = told != null ? told : ofWords(name, text, words);
                told = told != null ? told : ofRows(name, text, words);
                told = told != null ? told : ofShapes(name, text, words);
                return told != null ? told : ofPacking(name, text, words);
        }
    }

    private static int number(String[] words, int index) {
        return Integer.parseInt(words[index]);
    }

    private int type(String signs, int many) {
        for (int i = 0; i < many; i++) {
            need(signs.charAt(i) == '$' || isLetter(signs.charAt(i)), new IllegalArgumentException());
        }
        need(typed.length() + many <= 65, new IllegalStateException());
        typed += signs;
        return typed.length();
    }

    private static boolean isLetter(char sign) {
        return "abcdefghijklmnopqrstuvwxyz".indexOf(sign) >= 0;
    }

    private static void need(boolean held, RuntimeException otherwise) {
        if (!held) {
            throw otherwise;
        }
    }

    private String textAt(int number) {
        need(number >= 0 && number < texts.size(), new IndexOutOfBoundsException());
        return texts.get(number);
    }

    private static int inside(int index, int size) {
        need(index >= 0 && index < size, new IndexOutOfBoundsException());
        return index;
    }

    private int added(String text) {
        need(texts.size() < 8, new IllegalStateException());
        texts.add(text);
        return texts.size() - 1;
    }

    private int hold(String word) {
        typed = word;
        return word.length();
    }

    private Object ofTexts(String name, String text, String[] words) {
        int own = number(words, 1);
        switch (name) {
            case "take":
                return hold(text);
            case "length":
                return text.length();
            case "signAt":
                return text.charAt(inside(number(words, 2), text.length()));
            case "join":
                String other = textAt(number(words, 2));
                need(text.length() + other.length() <= 64, new UnsupportedOperationException());
                return added(text + other);
            case "mirror":
                return added(new StringBuilder(text).reverse().toString());
            case "change":
                int place = inside(number(words, 2), text.length());
                need(isLetter(words[3].charAt(0)), new IllegalArgumentException());
                texts.set(own, text.substring(0, place) + words[3] + text.substring(place + 1));
                return text.charAt(place);
            case "ahead":
                need(isLetter(words[2].charAt(0)), new IllegalArgumentException());
                need(text.length() < 64, new IllegalStateException());
                texts.set(own, words[2] + text);
                return ranksChanged(text, words[2] + text);
            case "chop":
                need(!text.isEmpty(), new NoSuchElementException());
                texts.set(own, text.substring(1));
                return ranksChanged(text.substring(1), text);
            default:
                return null;
        }
    }

    private static int ranksChanged(String shorter, String longer) {
        int changed = 0;
        for (int place = 0; place < shorter.length(); place++) {
            if (ends(shorter).indexOf(place) != ends(longer).indexOf(place + 1)) {
                changed++;
            }
        }
        return changed;
    }

    private static List<Integer> ends(String text) {
        List<Integer> places = new ArrayList<>();
        for (int place = 0; place < text.length(); place++) {
            places.add(place);
        }
        places.sort(Comparator.comparing(text::substring));
        return places;
    }

    private static int like(String one, String two) {
        int like = 0;
        while (like < one.length() && like < two.length() && one.charAt(like) == two.charAt(like)) {
            like++;
        }
        return like;
    }

    private static int common(String text, int rank) {
        return rank == 0 ? 0 : like(text.substring(ends(text).get(rank)), text.substring(ends(text).get(rank - 1)));
    }

    private static TreeSet<String> beginnings(String text, int signs) {
        TreeSet<String> found = new TreeSet<>();
        for (int place = 0; place < text.length(); place++) {
            found.add(beginning(text, place, signs));
        }
        return found;
    }

    private static String beginning(String text, int place, int signs) {
        return text.substring(place, Math.min(text.length(), place + signs));
    }

    private static int classSize(int signs) {
        need(signs >= 1 && signs <= 64, new IllegalArgumentException());
        return signs;
    }

    private Object ofOrder(String name, String text, String[] words) {
        switch (name) {
            case "endAt":
                return ends(text).get(inside(number(words, 2), text.length()));
            case "rankOf":
                return ends(text).indexOf(inside(number(words, 2), text.length()));
            case "classOf":
                int place = inside(number(words, 2), text.length());
                int signs = classSize(number(words, 3));
                return beginnings(text, signs).headSet(beginning(text, place, signs)).size();
            case "classes":
                return beginnings(text, classSize(number(words, 2))).size();
            case "rounds":
                int rounds = text.isEmpty() ? 0 : 1;
                for (int s = 1; beginnings(text, s).size() < text.length(); s *= 2) {
                    rounds++;
                }
                return rounds;
            case "common":
                return common(text, inside(number(words, 2), text.length()));
            case "shared":
                String one = text.substring(inside(number(words, 2), text.length()));
                String other = textAt(number(words, 3));
                return like(one, other.substring(inside(number(words, 4), other.length())));
            default:
                return null;
        }
    }

    private static List<Integer> stands(String text, String word) {
        List<Integer> places = new ArrayList<>();
        for (int place = 0; place < text.length(); place++) {
            if (text.startsWith(word, place)) {
                places.add(place);
            }
        }
        return places;
    }

    /** All words of a text with how often they stand there. */
    private static TreeMap<String, Integer> words(String text) {
        return WORDS.computeIfAbsent(text, Model::listed);
    }

    private static TreeMap<String, Integer> listed(String text) {
        TreeMap<String, Integer> found = new TreeMap<>();
        for (int from = 0; from < text.length(); from++) {
            for (int to = from + 1; to <= text.length(); to++) {
                found.merge(text.substring(from, to), 1, Integer::sum);
            }
        }
        return found;
    }

    private String soughtWord() {
        need(!typed.isEmpty() && !typed.contains("$"), new UnsupportedOperationException());
        return typed;
    }

    private Object ofWords(String name, String text, String[] words) {
        switch (name) {
            case "count":
                return stands(text, soughtWord()).size();
            case "runFrom":
                String run = soughtWord();
                for (int place : ends(text)) {
                    if (text.startsWith(run, place)) {
                        return ends(text).indexOf(place);
                    }
                }
                throw new NoSuchElementException();
            case "standsAt":
                List<Integer> places = stands(text, soughtWord());
                int index = number(words, 2);
                need(index >= 0 && index < places.size(), new NoSuchElementException());
                return places.get(index);
            case "tail":
                String word = soughtWord();
                int signs = number(words, 2);
                need(signs >= 1 && signs <= word.length(), new IllegalArgumentException());
                return stands(text, word.substring(word.length() - signs)).size();
            case "words":
                return words(text).size();
            case "word":
                int asked = number(words, 2);
                need(asked >= 0 && asked < words(text).size(), new NoSuchElementException());
                return hold(new ArrayList<>(words(text).keySet()).get(asked));
            case "numberOf":
                need(words(text).containsKey(soughtWord()), new NoSuchElementException());
                return words(text).headMap(typed).size();
            default:
                return ofOften(name, text);
        }
    }

    private static Object ofOften(String name, String text) {
        String twice = null;
        String once = null;
        for (Map.Entry<String, Integer> entry : words(text).entrySet()) {
            String word = entry.getKey();
            if (entry.getValue() >= 2 && (twice == null || word.length() > twice.length())) {
                twice = word;
            }
            if (entry.getValue() == 1 && (once == null || word.length() < once.length()
                    || word.length() == once.length() && text.indexOf(word) < text.indexOf(once))) {
                once = word;
            }
        }
        switch (name) {
            case "twice":
                return twice == null ? 0 : twice.length();
            case "twiceAt":
                need(twice != null, new NoSuchElementException());
                return text.indexOf(twice);
            case "once":
                need(once != null, new NoSuchElementException());
                return once.length();
            case "onceAt":
                need(once != null, new NoSuchElementException());
                return text.indexOf(once);
            default:
                return null;
        }
    }

    private String longestIn(int many) {
        need(many >= 1 && many <= 8, new IllegalArgumentException());
        String best = "";
        for (String text : texts) {
            for (String word : words(text).keySet()) {
                boolean better = word.length() > best.length()
                        || word.length() == best.length() && word.compareTo(best) < 0;
                if (better && texts.stream().filter(other -> other.contains(word)).count() >= many) {
                    best = word;
                }
            }
        }
        need(!best.isEmpty(), new NoSuchElementException());
        return best;
    }

    private static List<String> rows(String text) {
        List<String> rows = new ArrayList<>();
        for (int place = 0; place <= text.length(); place++) {
            rows.add(text.substring(place) + "$" + text.substring(0, place));
        }
        rows.sort(Comparator.naturalOrder());
        return rows;
    }

    private static String lastColumn(String text) {
        StringBuilder column = new StringBuilder();
        for (String row : rows(text)) {
            column.append(row.charAt(row.length() - 1));
        }
        return column.toString();
    }

    /** Puts the column ahead of the sorted rows again and again. */
    private String turnedBack() {
        List<String> rows = new ArrayList<>();
        for (int i = 0; i < typed.length(); i++) {
            rows.add("");
        }
        for (int round = 0; round < typed.length(); round++) {
            for (int i = 0; i < typed.length(); i++) {
                rows.set(i, typed.charAt(i) + rows.get(i));
            }
            rows.sort(Comparator.naturalOrder());
        }
        for (String row : rows) {
            String text = row.substring(0, row.length() - 1);
            if (row.endsWith("$") && !text.contains("$") && lastColumn(text).equals(typed)) {
                return text;
            }
        }
        throw new UnsupportedOperationException();
    }

    private Object ofRows(String name, String text, String[] words) {
        String column = lastColumn(text);
        switch (name) {
            case "first":
                return rows(text).get(inside(number(words, 2), column.length())).charAt(0);
            case "last":
                return column.charAt(inside(number(words, 2), column.length()));
            case "back":
                String row = rows(text).get(inside(number(words, 2), column.length()));
                return rows(text).indexOf(row.charAt(row.length() - 1) + row.substring(0, row.length() - 1));
            case "runs":
                return column.split("(?<=(.))(?!\\1)").length;
            case "front":
                int asked = inside(number(words, 2), column.length());
                String signs = "$abcdefghijklmnopqrstuvwxyz";
                int told = 0;
                for (int i = 0; i <= asked; i++) {
                    told = signs.indexOf(column.charAt(i));
                    signs = column.charAt(i) + signs.replace(column.substring(i, i + 1), "");
                }
                return told;
            case "column":
                return hold(column);
            default:
                return null;
        }
    }

    private static boolean isSquare(String text, int place, int length) {
        return place + 2 * length <= text.length()
                && text.substring(place, place + length).equals(text.substring(place + length, place + 2 * length));
    }

    private static boolean isPlain(String word) {
        for (int place = 1; place < word.length(); place++) {
            if (word.compareTo(word.substring(place)) >= 0) {
                return false;
            }
        }
        return !word.isEmpty();
    }

    /** Puts plain neighbours together while the one is less than the other. */
    private static List<String> parts(String text) {
        List<String> parts = new ArrayList<>(List.of(text.split("")));
        if (text.isEmpty()) {
            return List.of();
        }
        for (int i = 1; i < parts.size();) {
            if (parts.get(i - 1).compareTo(parts.get(i)) < 0) {
                parts.set(i - 1, parts.get(i - 1) + parts.remove(i));
                i = Math.max(1, i - 1);
            } else {
                i++;
            }
        }
        if (!parts.stream().allMatch(Model::isPlain)) {
            throw new AssertionError("the model is wrong: " + parts);
        }
        return parts;
    }

    private Object ofShapes(String name, String text, String[] words) {
        int size = text.length();
        switch (name) {
            case "squares":
                int squares = 0;
                for (int at = 0; at < size; at++) {
                    for (int length = 1; length <= size; length++) {
                        squares += isSquare(text, at, length) ? 1 : 0;
                    }
                }
                return squares;
            case "squareAt":
                int place = inside(number(words, 2), size);
                int least = 1;
                while (least <= size && !isSquare(text, place, least)) {
                    least++;
                }
                need(least <= size, new NoSuchElementException());
                return least;
            case "period":
                need(size > 0, new NoSuchElementException());
                int period = 1;
                while (!text.startsWith(text.substring(period))) {
                    period++;
                }
                return period;
            case "turnAt":
                need(size > 0, new NoSuchElementException());
                TreeMap<String, Integer> turns = new TreeMap<>();
                for (int at = 0; at < size; at++) {
                    turns.putIfAbsent(text.substring(at) + text.substring(0, at), at);
                }
                return turns.firstEntry().getValue();
            case "parts":
                return parts(text).size();
            case "partAt":
                int index = inside(number(words, 2), parts(text).size());
                return String.join("", parts(text).subList(0, index)).length();
            default:
                return null;
        }
    }

    private static boolean standsAhead(String text, int place, int length) {
        return text.indexOf(text.substring(place, place + length)) < place;
    }

    private static List<String> pieces(String text) {
        List<String> pieces = new ArrayList<>();
        for (int place = 0; place < text.length();) {
            int length = text.length() - place;
            while (length > 1 && !standsAhead(text, place, length)) {
                length--;
            }
            pieces.add(text.substring(place, place + length));
            place += length;
        }
        return pieces;
    }

    private static int fewest(String text) {
        int[] fewest = new int[text.length() + 1];
        for (int to = 1; to <= text.length(); to++) {
            fewest[to] = fewest[to - 1] + 1;
            for (int from = 0; from < to - 1; from++) {
                if (standsAhead(text, from, to - from)) {
                    fewest[to] = Math.min(fewest[to], fewest[from] + 1);
                }
            }
        }
        return fewest[text.length()];
    }

    private Object ofPacking(String name, String text, String[] words) {
        switch (name) {
            case "pieces":
                return pieces(text).size();
            case "pieceLength":
                return pieces(text).get(inside(number(words, 2), pieces(text).size())).length();
            case "pieceFrom":
                int index = inside(number(words, 2), pieces(text).size());
                int start = String.join("", pieces(text).subList(0, index)).length();
                need(text.indexOf(pieces(text).get(index)) < start, new NoSuchElementException());
                return text.indexOf(pieces(text).get(index));
            case "fewest":
                return fewest(text);
            case "commonShare":
                need(!text.isEmpty(), new ArithmeticException());
                int above = 0;
                for (int rank = 0; rank < text.length(); rank++) {
                    above += common(text, rank) > 0 ? 1 : 0;
                }
                return (float) above / (float) text.length();
            case "meanCommon":
                need(!text.isEmpty(), new ArithmeticException());
                int sum = 0;
                for (int rank = 0; rank < text.length(); rank++) {
                    sum += common(text, rank);
                }
                return (double) sum / (double) text.length();
            default:
                throw new AssertionError("no call " + name);
        }
    }

    private long checksum() {
        long sum = 7;
        for (String text : texts) {
            sum = 31 * sum + text.length();
            for (int rank = 0; rank < text.length(); rank++) {
                sum = 31 * sum + ends(text).get(rank);
                sum = 31 * sum + common(text, rank);
            }
        }
        return sum;
    }
}
