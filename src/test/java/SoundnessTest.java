import java.lang.reflect.Field;

/**
 * Promise 54: isSound answers false if one of the things that it checks is not so.
 *
 * <p>No run of calls leads there, so this test breaks what an object holds, behind the back of the class: places and
 * common beginnings by rank, ranks by place, signs. Then each other check still holds, as far as that can be.
 */
public final class SoundnessTest {
    private static final String[] AROUND = {"mississippi", "banana", "abracadabra"};

    private final Script script = new Script("SoundnessTest");

    public static void main(String[] args) throws ReflectiveOperationException {
        SoundnessTest test = new SoundnessTest();
        test.script.expect("isSound", "true", String.valueOf(shelf().isSound()));
        for (int number = 0; number < AROUND.length; number++) {
            test.orderBroken(number);
        }
        test.signBroken();
        test.columnsBroken();
        test.wordsBroken();
        test.longestBroken();
        test.piecesBroken();
        test.script.end();
    }

    private static Suffixshelf shelf(String... more) {
        Suffixshelf shelf = new Suffixshelf();
        for (String[] words : new String[][] {AROUND, more}) {
            for (String word : words) {
                for (int i = 0; i < word.length(); i++) {
                    shelf.type(word.charAt(i));
                }
                shelf.text();
            }
        }
        return shelf;
    }

    private void expectUnsound(String what, Suffixshelf shelf) {
        script.expect("isSound, though " + what, "false", String.valueOf(shelf.isSound()));
    }

    private void orderBroken(int number) throws ReflectiveOperationException {
        Suffixshelf shelf = shelf();
        swap(numbers(shelf, number, "places"), 1, 2);
        expectUnsound("two ends of text " + number + " are out of order", shelf);
    }

    private void signBroken() throws ReflectiveOperationException {
        Suffixshelf shelf = shelf();
        ((char[]) held(shelf, 1, "signs"))[0] = 'z';
        expectUnsound("a sign has changed", shelf);
    }

    private void columnsBroken() throws ReflectiveOperationException {
        Suffixshelf shelf = shelf();
        swap(numbers(shelf, 1, "ranks"), 2, 4);
        expectUnsound("like signs stand in two orders", shelf);
    }

    /** banana has the common beginnings 0 1 3 0 0 2. */
    private void wordsBroken() throws ReflectiveOperationException {
        for (int other : new int[] {1, 3}) {
            Suffixshelf shelf = shelf();
            numbers(shelf, 1, "commons")[5] = other;
            expectUnsound("the words are not as many as the common beginnings tell", shelf);
        }
    }

    private void longestBroken() throws ReflectiveOperationException {
        Suffixshelf shorter = shelf();
        numbers(shorter, 1, "commons")[1] = 2;
        numbers(shorter, 1, "commons")[2] = 2;
        expectUnsound("the longest word that stands twice is longer than the greatest common beginning", shorter);
        Suffixshelf longer = shelf();
        numbers(longer, 1, "commons")[1] = 0;
        numbers(longer, 1, "commons")[2] = 4;
        expectUnsound("the longest word that stands twice is shorter than the greatest common beginning", longer);
    }

    /** baaaa has the common beginnings 0 1 2 3 0. */
    private void piecesBroken() throws ReflectiveOperationException {
        Suffixshelf shelf = shelf("baaaa");
        swap(numbers(shelf, 3, "commons"), 2, 4);
        expectUnsound("the pieces are not as few as any", shelf);
    }

    private static void swap(int[] row, int one, int two) {
        int kept = row[one];
        row[one] = row[two];
        row[two] = kept;
    }

    private static int[] numbers(Suffixshelf shelf, int number, String name) throws ReflectiveOperationException {
        return (int[]) held(shelf, number, name);
    }

    private static Object held(Suffixshelf shelf, int number, String name) throws ReflectiveOperationException {
        Object[] texts = (Object[]) opened(Suffixshelf.class, "shelf").get(shelf);
        return opened(texts[number].getClass(), name).get(texts[number]);
    }

    private static Field opened(Class<?> owner, String name) throws ReflectiveOperationException {
        Field field = owner.getDeclaredField(name);
        field.setAccessible(true);
        return field;
    }
}
