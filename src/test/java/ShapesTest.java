/** Promises 41 to 46. */
public final class ShapesTest {
    private static final String ALIKE_64 = "a".repeat(64);

    public static void main(String[] args) {
        Script script = new Script("ShapesTest");
        squares(script);
        period(script);
        turn(script);
        parts(script);
        script.end();
    }

    private static void squares(Script script) {
        script.run("""
                # Promises 41 and 42
                new
                put = 0
                put a = 1
                put aa = 2
                put banana = 3                         # anan, nana
                put aaaaaa = 4
                put aabaab = 5                         # aa, aa, aabaab
                put abcabc = 6
                squares 0 = 0
                squares 1 = 0
                squares 2 = 1
                squares 3 = 2
                squares 4 = 9
                squares 5 = 3
                squares 6 = 1
                squares 7 = IndexOutOfBoundsException
                squares -1 = IndexOutOfBoundsException
                squareAt 2 0 = 1
                squareAt 2 1 = NoSuchElementException
                squareAt 3 0 = NoSuchElementException
                squareAt 3 1 = 2
                squareAt 3 2 = 2
                squareAt 3 3 = NoSuchElementException
                squareAt 4 0 = 1
                squareAt 4 4 = 1
                squareAt 4 5 = NoSuchElementException
                squareAt 5 0 = 1                       # the least of two
                squareAt 6 0 = 3
                squareAt 6 1 = NoSuchElementException
                squareAt 1 0 = NoSuchElementException
                squareAt 0 0 = IndexOutOfBoundsException
                squareAt 3 6 = IndexOutOfBoundsException
                squareAt 3 -1 = IndexOutOfBoundsException
                squareAt 7 0 = IndexOutOfBoundsException
                squareAt -1 0 = IndexOutOfBoundsException
                """);
        script.run("new\n put " + ALIKE_64 + " = 0\n squares 0 = 1024");
        script.run("put " + "abcdefghijklmnopqrstuvwxyzabcdef".repeat(2) + " = 1");
        script.run("squares 1 = 2\n squareAt 1 0 = 32\n squareAt 1 26 = 6");
    }

    private static void period(Script script) {
        script.run("""
                # Promise 43
                new
                put = 0
                put a = 1
                put ab = 2
                put aaaa = 3
                put abcab = 4                          # not a whole number of times
                put abaab = 5
                put banana = 6
                period 0 = NoSuchElementException
                period 1 = 1
                period 2 = 2
                period 3 = 1
                period 4 = 3
                period 5 = 3
                period 6 = 6
                period 7 = IndexOutOfBoundsException
                period -1 = IndexOutOfBoundsException
                """);
    }

    private static void turn(Script script) {
        script.run("""
                # Promise 44
                new
                put = 0
                put a = 1
                put banana = 2                         # abanan
                put aaaa = 3
                put baba = 4                           # the first of two alike
                put cabab = 5
                put aabaa = 6                          # aaaab
                turnAt 0 = NoSuchElementException
                turnAt 1 = 0
                turnAt 2 = 5
                turnAt 3 = 0
                turnAt 4 = 1
                turnAt 5 = 1
                turnAt 6 = 3
                turnAt 7 = IndexOutOfBoundsException
                turnAt -1 = IndexOutOfBoundsException
                """);
    }

    private static void parts(Script script) {
        script.run("""
                # Promises 45 and 46
                new
                put = 0
                put a = 1
                put banana = 2                         # b an an a
                put aab = 3
                put aaa = 4                            # a a a
                put abacabab = 5                       # abac ab ab
                put cba = 6
                put abcb = 7
                parts 0 = 0
                parts 1 = 1
                parts 2 = 4
                parts 3 = 1
                parts 4 = 3
                parts 5 = 3
                parts 6 = 3
                parts 7 = 1
                parts 8 = IndexOutOfBoundsException
                parts -1 = IndexOutOfBoundsException
                partAt 1 0 = 0
                partAt 2 0 = 0
                partAt 2 1 = 1
                partAt 2 2 = 3
                partAt 2 3 = 5
                partAt 2 4 = IndexOutOfBoundsException
                partAt 2 -1 = IndexOutOfBoundsException
                partAt 2 64 = IndexOutOfBoundsException
                partAt 4 2 = 2
                partAt 5 1 = 4
                partAt 5 2 = 6
                partAt 5 3 = IndexOutOfBoundsException
                partAt 7 1 = IndexOutOfBoundsException
                partAt 0 0 = IndexOutOfBoundsException
                partAt 8 0 = IndexOutOfBoundsException
                partAt -1 0 = IndexOutOfBoundsException
                """);
        script.run("new\n put " + ALIKE_64 + " = 0\n parts 0 = 64\n partAt 0 63 = 63");
    }
}
