/** Promises 47 to 54. */
public final class PackingTest {
    private static final String ALIKE_64 = "a".repeat(64);

    public static void main(String[] args) {
        Script script = new Script("PackingTest");
        pieces(script);
        fewest(script);
        shares(script);
        checksum(script);
        isSound(script);
        script.end();
    }

    private static void pieces(Script script) {
        script.run("""
                # Promises 47, 48 and 49
                new
                put = 0
                put a = 1
                put banana = 2                         # b a n ana
                put aaaaaa = 3                         # a aaaaa
                put abcabcxbcab = 4                    # a b c abc x bcab
                put abcbcd = 5                         # a b c bc d
                pieces 0 = 0
                pieces 1 = 1
                pieces 2 = 4
                pieces 3 = 2
                pieces 4 = 6
                pieces 5 = 5
                pieces 6 = IndexOutOfBoundsException
                pieces -1 = IndexOutOfBoundsException
                pieceLength 1 0 = 1
                pieceLength 2 0 = 1
                pieceLength 2 3 = 3
                pieceLength 3 1 = 5
                pieceLength 4 3 = 3
                pieceLength 4 4 = 1
                pieceLength 4 5 = 4
                pieceLength 5 3 = 2
                pieceLength 5 4 = 1
                pieceLength 2 4 = IndexOutOfBoundsException
                pieceLength 2 -1 = IndexOutOfBoundsException
                pieceLength 0 0 = IndexOutOfBoundsException
                pieceLength 6 0 = IndexOutOfBoundsException
                pieceLength -1 0 = IndexOutOfBoundsException
                pieceFrom 1 0 = NoSuchElementException
                pieceFrom 2 0 = NoSuchElementException
                pieceFrom 2 2 = NoSuchElementException
                pieceFrom 2 3 = 1
                pieceFrom 3 0 = NoSuchElementException
                pieceFrom 3 1 = 0
                pieceFrom 4 3 = 0
                pieceFrom 4 4 = NoSuchElementException
                pieceFrom 4 5 = 1
                pieceFrom 5 3 = 1
                pieceFrom 5 4 = NoSuchElementException
                pieceFrom 2 4 = IndexOutOfBoundsException
                pieceFrom 2 -1 = IndexOutOfBoundsException
                pieceFrom 0 0 = IndexOutOfBoundsException
                pieceFrom 6 0 = IndexOutOfBoundsException
                pieceFrom -1 0 = IndexOutOfBoundsException
                new
                put xabyabzab = 0                      # x a b y ab z ab: the first place of two
                pieces 0 = 7
                pieceFrom 0 6 = 1
                """);
        script.run("new\n put " + ALIKE_64 + " = 0\n pieces 0 = 2\n pieceLength 0 1 = 63\n pieceFrom 0 1 = 0");
    }

    private static void fewest(Script script) {
        script.run("""
                # Promise 50
                new
                put = 0
                put a = 1
                put banana = 2
                put aaaaaa = 3
                put abcabcxbcab = 4
                put abcdefg = 5
                fewest 0 = 0
                fewest 1 = 1
                fewest 2 = 4
                fewest 3 = 2
                fewest 4 = 6
                fewest 5 = 7
                fewest 6 = IndexOutOfBoundsException
                fewest -1 = IndexOutOfBoundsException
                """);
        script.run("new\n put " + ALIKE_64 + " = 0\n fewest 0 = 2");
    }

    private static void shares(Script script) {
        script.run("new\n put banana = 0\n put = 1\n put aaa = 2\n put abc = 3\n put a = 4\n put aab = 5");
        // banana has the common beginnings 0 1 3 0 0 2, aaa 0 1 2, aab 0 1 0
        script.expect("commonShare 0", String.valueOf(3f / 6f), script.answer("commonShare 0"));
        script.expect("commonShare 2", String.valueOf(2f / 3f), script.answer("commonShare 2"));
        script.expect("commonShare 5", String.valueOf(1f / 3f), script.answer("commonShare 5"));
        script.expect("meanCommon 0", String.valueOf(6d / 6d), script.answer("meanCommon 0"));
        script.expect("meanCommon 2", String.valueOf(3d / 3d), script.answer("meanCommon 2"));
        script.expect("meanCommon 5", String.valueOf(1d / 3d), script.answer("meanCommon 5"));
        script.run("""
                # Promises 51 and 52
                commonShare 3 = 0.0
                commonShare 4 = 0.0
                meanCommon 3 = 0.0
                meanCommon 4 = 0.0
                commonShare 1 = ArithmeticException
                meanCommon 1 = ArithmeticException
                commonShare 6 = IndexOutOfBoundsException
                commonShare -1 = IndexOutOfBoundsException
                meanCommon 6 = IndexOutOfBoundsException
                meanCommon -1 = IndexOutOfBoundsException
                """);
        script.run("new\n put " + ALIKE_64 + " = 0\n commonShare 0 = 0.984375\n meanCommon 0 = 31.5");
    }

    private static void checksum(Script script) {
        script.run("""
                # Promise 53
                new
                checksum = 7
                put = 0
                checksum = 217
                """);
        long sum = 217;
        // the length, then a place and a common beginning a rank
        for (int added : new int[] {6, 5, 0, 3, 1, 1, 3, 0, 0, 4, 0, 2, 2}) {
            sum = 31 * sum + added;
        }
        script.run("put banana = 1\n checksum = " + sum);
        script.run("spell abc\n checksum = " + sum);
        script.run("ahead 1 a\n chop 1\n checksum = " + sum);
        sum = 31 * sum + 64;
        for (int place = 63; place >= 0; place--) {
            sum = 31 * sum + place;
            sum = 31 * sum + 63 - place;
        }
        script.run("put " + ALIKE_64 + " = 2\n checksum = " + sum);
    }

    private static void isSound(Script script) {
        script.run("""
                # Promise 54
                new
                isSound = true
                put = 0
                put banana = 1
                put z = 2
                put mississippi = 3
                put abracadabra = 4
                isSound = true
                change 3 0 a
                ahead 4 r
                chop 1
                isSound = true
                """);
        script.run("put " + ALIKE_64 + " = 5\n put " + "ab".repeat(32) + " = 6\n isSound = true");
        script.run("put " + "abaababaabaababaababaabaababaabaababaababaabaababaababaabaababaab".substring(0, 64)
                + " = 7\n isSound = true");
    }
}
