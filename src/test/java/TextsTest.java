/** Promises 1 to 14. */
public final class TextsTest {
    private static final String LONG_64 = "abcdefgh".repeat(8);

    public static void main(String[] args) {
        Script script = new Script("TextsTest");
        script.run("""
                # Promise 1: no texts, nothing typed
                length 0 = IndexOutOfBoundsException
                typed 0 = NoSuchElementException
                wipe = 0
                checksum = 7
                isSound = true
                text = 0
                length 0 = 0
                """);
        type(script);
        typeMore(script);
        typedRow(script);
        text(script);
        takeAndLook(script);
        joinAndMirror(script);
        change(script);
        aheadAndChop(script);
        script.end();
    }

    private static void type(Script script) {
        script.run("""
                # Promise 2
                new
                type a = 1
                type z = 2
                type $ = 3
                type $ = 4
                type A = IllegalArgumentException
                type ` = IllegalArgumentException
                type { = IllegalArgumentException
                type \\0 = IllegalArgumentException
                type \\35 = IllegalArgumentException
                type \\37 = IllegalArgumentException
                type \\255 = IllegalArgumentException
                type \\65535 = IllegalArgumentException
                row = az$$
                new
                """);
        script.run("spell " + LONG_64);
        script.run("""
                type x = 65
                type y = IllegalStateException
                type $ = IllegalStateException
                type A = IllegalArgumentException      # the first of two
                """);
        script.run("row = " + LONG_64 + "x");
    }

    private static void typeMore(Script script) {
        script.run("""
                # Promise 3
                new
                typeMore 1 a b c d e f g h = 1
                typeMore 8 s t u v w x y $ = 9
                typeMore 3 k l m A A A A A = 12        # the others are not looked at
                row = astuvwxy$klm
                typeMore 0 a b c d e f g h = IllegalArgumentException
                typeMore -1 a b c d e f g h = IllegalArgumentException
                typeMore 9 a b c d e f g h = IllegalArgumentException
                typeMore 2147483647 a b c d e f g h = IllegalArgumentException
                typeMore -2147483648 a b c d e f g h = IllegalArgumentException
                typeMore 1 A b c d e f g h = IllegalArgumentException
                typeMore 4 a b c \\0 e f g h = IllegalArgumentException
                typeMore 8 a b c d e f g { = IllegalArgumentException
                row = astuvwxy$klm
                new
                typeMore 8 a b c d e f g h = 8
                typeMore 8 a b c d e f g h = 16
                typeMore 8 a b c d e f g h = 24
                typeMore 8 a b c d e f g h = 32
                typeMore 8 a b c d e f g h = 40
                typeMore 8 a b c d e f g h = 48
                typeMore 8 a b c d e f g h = 56
                typeMore 3 x y z A A A A A = 59
                typeMore 7 a b c d e f g h = IllegalStateException
                typeMore 8 a b c d e f g A = IllegalArgumentException
                typeMore 7 a b c d e f A h = IllegalArgumentException   # the first of two
                typeMore 6 a b c d e f g h = 65
                typeMore 1 a b c d e f g h = IllegalStateException
                typeMore 0 a b c d e f g h = IllegalArgumentException
                typeMore 9 a b c d e f g h = IllegalArgumentException
                """);
        script.run("row = " + "abcdefgh".repeat(7) + "xyzabcdef");
    }

    private static void typedRow(Script script) {
        script.run("""
                # Promises 4 and 5
                new
                wipe = 0
                spell ab$
                typed 0 = a
                typed 2 = $
                typed 3 = NoSuchElementException
                typed -1 = NoSuchElementException
                typed 64 = NoSuchElementException
                typed 65 = NoSuchElementException
                typed 2147483647 = NoSuchElementException
                typed -2147483648 = NoSuchElementException
                wipe = 3
                typed 0 = NoSuchElementException
                wipe = 0
                type c = 1
                row = c
                """);
    }

    private static void text(Script script) {
        script.run("""
                # Promise 6
                new
                spell dog
                text = 0
                row =
                holds 0 = dog
                text = 1                               # of an empty row
                holds 1 =
                spell a$b
                text = UnsupportedOperationException
                spell $
                text = UnsupportedOperationException
                row = $
                """);
        script.run("spell " + LONG_64 + "x\n text = UnsupportedOperationException");
        script.run("spell " + LONG_64 + "$\n text = UnsupportedOperationException\n wipe = 65");
        script.run("put " + LONG_64 + " = 2\n holds 2 = " + LONG_64);
        script.run("""
                put a = 3
                put b = 4
                put c = 5
                put d = 6
                put e = 7
                spell f
                text = IllegalStateException
                row = f
                length 7 = 1
                length 8 = IndexOutOfBoundsException
                spell f$
                text = UnsupportedOperationException    # the first of two
                """);
        script.run("spell " + LONG_64 + "x\n text = UnsupportedOperationException");
    }

    private static void takeAndLook(Script script) {
        script.run("""
                # Promises 7, 8 and 9
                new
                put dog = 0
                put = 1
                spell elephant
                take 0 = 3
                row = dog
                holds 0 = dog
                take 1 = 0
                row =
                spell xy
                take 2 = IndexOutOfBoundsException
                take -1 = IndexOutOfBoundsException
                take 8 = IndexOutOfBoundsException
                row = xy
                length 0 = 3
                length 1 = 0
                length 2 = IndexOutOfBoundsException
                length 7 = IndexOutOfBoundsException
                length 8 = IndexOutOfBoundsException
                length -1 = IndexOutOfBoundsException
                length -2147483648 = IndexOutOfBoundsException
                signAt 0 0 = d
                signAt 0 2 = g
                signAt 0 3 = IndexOutOfBoundsException
                signAt 0 64 = IndexOutOfBoundsException
                signAt 0 -1 = IndexOutOfBoundsException
                signAt 1 0 = IndexOutOfBoundsException
                signAt 2 0 = IndexOutOfBoundsException
                signAt -1 0 = IndexOutOfBoundsException
                """);
    }

    private static void joinAndMirror(Script script) {
        script.run("""
                # Promises 10 and 11
                new
                put ab = 0
                put cde = 1
                put = 2
                spell xy
                join 0 1 = 3
                join 1 0 = 4
                join 0 0 = 5
                join 2 2 = 6
                holds 3 = abcde
                holds 4 = cdeab
                holds 5 = abab
                holds 6 =
                endAt 5 0 = 2                          # its ends are in order, too
                join 0 7 = IndexOutOfBoundsException
                join 7 0 = IndexOutOfBoundsException
                join -1 0 = IndexOutOfBoundsException
                join 0 -1 = IndexOutOfBoundsException
                mirror 7 = IndexOutOfBoundsException
                mirror -1 = IndexOutOfBoundsException
                mirror 3 = 7
                holds 7 = edcba
                holds 3 = abcde
                endAt 7 0 = 4
                join 0 1 = IllegalStateException
                mirror 1 = IllegalStateException
                mirror 8 = IndexOutOfBoundsException    # the first of two
                join 0 8 = IndexOutOfBoundsException
                row = xy
                length 8 = IndexOutOfBoundsException
                """);
        script.run("new\n put " + LONG_64 + " = 0\n put " + LONG_64.substring(0, 32) + " = 1\n put x = 2");
        script.run("""
                join 0 2 = UnsupportedOperationException
                join 2 0 = UnsupportedOperationException
                join 0 0 = UnsupportedOperationException
                join 0 9 = IndexOutOfBoundsException
                join 1 1 = 3
                put = 4
                join 0 4 = 5
                """);
        script.run("holds 3 = " + LONG_64 + "\n holds 5 = " + LONG_64);
        script.run("""
                mirror 0 = 6
                mirror 4 = 7
                holds 7 =
                join 0 2 = UnsupportedOperationException # the first of two
                join 1 2 = IllegalStateException
                """);
        script.run("holds 6 = " + "hgfedcba".repeat(8));
    }

    private static void change(Script script) {
        script.run("""
                # Promise 12
                new
                put banana = 0
                put banana = 1
                spell xy
                change 0 0 c = b
                change 0 5 z = a
                change 0 2 n = n
                holds 0 = cananz
                holds 1 = banana
                endAt 0 5 = 5
                rankOf 0 5 = 5
                common 0 1 = 2
                isSound = true
                change 0 0 $ = IllegalArgumentException
                change 0 0 A = IllegalArgumentException
                change 0 0 { = IllegalArgumentException
                change 0 0 \\353 = IllegalArgumentException
                change 0 6 a = IndexOutOfBoundsException
                change 0 -1 a = IndexOutOfBoundsException
                change 0 64 a = IndexOutOfBoundsException
                change 2 0 a = IndexOutOfBoundsException
                change -1 0 a = IndexOutOfBoundsException
                change 2 0 A = IndexOutOfBoundsException # the first of two
                change 0 6 A = IndexOutOfBoundsException
                holds 0 = cananz
                row = xy
                """);
    }

    private static void aheadAndChop(Script script) {
        script.run("""
                # Promises 13 and 14
                new
                put anana = 0
                put = 1
                put bbb = 2
                spell xy
                ahead 0 b = 2                          # na, nana
                holds 0 = banana
                ahead 0 a = 5                          # all but a
                holds 0 = abanana
                ahead 0 z = 0
                ahead 2 a = 3
                ahead 2 b = 2                          # babbb is less than bb, bbb
                ahead 1 q = 0
                holds 1 = q
                ahead 0 $ = IllegalArgumentException
                ahead 0 A = IllegalArgumentException
                ahead 3 a = IndexOutOfBoundsException
                ahead -1 a = IndexOutOfBoundsException
                ahead 3 A = IndexOutOfBoundsException   # the first of two
                holds 0 = zabanana
                endAt 0 7 = 0
                chop 0 = 0
                chop 0 = 5
                holds 0 = banana
                endAt 0 3 = 0
                chop 0 = 2
                holds 0 = anana
                chop 1 = 0
                length 1 = 0
                chop 1 = NoSuchElementException
                chop 3 = IndexOutOfBoundsException
                chop -1 = IndexOutOfBoundsException
                row = xy
                isSound = true
                """);
        script.run("new\n put " + LONG_64 + " = 0\n");
        script.run("""
                ahead 0 a = IllegalStateException
                ahead 0 A = IllegalArgumentException    # the first of two
                ahead 1 a = IndexOutOfBoundsException
                chop 0 = 56                            # all but the 7 shorter ones that begin with a
                ahead 0 z = 0
                length 0 = 64
                signAt 0 0 = z
                signAt 0 63 = h
                """);
    }
}
