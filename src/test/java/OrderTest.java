/** Promises 15 to 21. */
public final class OrderTest {
    private static final String ALIKE_64 = "a".repeat(64);

    public static void main(String[] args) {
        Script script = new Script("OrderTest");
        ends(script);
        classes(script);
        rounds(script);
        commons(script);
        shared(script);
        script.end();
    }

    private static void ends(Script script) {
        script.run("""
                # Promises 15 and 16
                new
                put banana = 0                         # a ana anana banana na nana
                put = 1
                put zyx = 2
                endAt 0 0 = 5
                endAt 0 1 = 3
                endAt 0 2 = 1
                endAt 0 3 = 0
                endAt 0 4 = 4
                endAt 0 5 = 2
                endAt 2 0 = 2
                endAt 2 2 = 0
                rankOf 0 0 = 3
                rankOf 0 1 = 2
                rankOf 0 2 = 5
                rankOf 0 3 = 1
                rankOf 0 4 = 4
                rankOf 0 5 = 0
                endAt 0 6 = IndexOutOfBoundsException
                endAt 0 -1 = IndexOutOfBoundsException
                endAt 0 64 = IndexOutOfBoundsException
                endAt 1 0 = IndexOutOfBoundsException
                endAt 3 0 = IndexOutOfBoundsException
                endAt -1 0 = IndexOutOfBoundsException
                endAt 8 0 = IndexOutOfBoundsException
                rankOf 0 6 = IndexOutOfBoundsException
                rankOf 0 -1 = IndexOutOfBoundsException
                rankOf 1 0 = IndexOutOfBoundsException
                rankOf 3 0 = IndexOutOfBoundsException
                rankOf -1 0 = IndexOutOfBoundsException
                """);
        script.run("new\n put " + ALIKE_64 + " = 0");
        script.run("""
                endAt 0 0 = 63
                endAt 0 63 = 0
                rankOf 0 0 = 63
                rankOf 0 40 = 23
                """);
    }

    private static void classes(Script script) {
        script.run("""
                # Promises 17 and 18
                new
                put banana = 0
                put = 1
                classOf 0 5 1 = 0
                classOf 0 1 1 = 0
                classOf 0 0 1 = 1
                classOf 0 2 1 = 2
                classOf 0 4 1 = 2
                classOf 0 5 2 = 0                      # a, counting whole
                classOf 0 3 2 = 1                      # an
                classOf 0 1 2 = 1
                classOf 0 0 2 = 2
                classOf 0 4 2 = 3
                classOf 0 2 2 = 3
                classOf 0 1 3 = 1                      # any number is good, not only 1, 2, 4
                classOf 0 4 3 = 3
                classOf 0 2 3 = 4
                classOf 0 1 4 = 2
                classOf 0 2 64 = 5
                classes 0 1 = 3
                classes 0 2 = 4
                classes 0 3 = 5
                classes 0 4 = 6
                classes 0 64 = 6
                classes 1 1 = 0
                classes 1 64 = 0
                classOf 0 0 0 = IllegalArgumentException
                classOf 0 0 65 = IllegalArgumentException
                classOf 0 0 -1 = IllegalArgumentException
                classOf 0 6 1 = IndexOutOfBoundsException
                classOf 0 -1 1 = IndexOutOfBoundsException
                classOf 1 0 1 = IndexOutOfBoundsException
                classOf 2 0 1 = IndexOutOfBoundsException
                classOf -1 0 1 = IndexOutOfBoundsException
                classOf 2 0 0 = IndexOutOfBoundsException # the first of two
                classOf 0 6 65 = IndexOutOfBoundsException
                classes 0 0 = IllegalArgumentException
                classes 0 65 = IllegalArgumentException
                classes 1 0 = IllegalArgumentException
                classes 0 -2147483648 = IllegalArgumentException
                classes 2 1 = IndexOutOfBoundsException
                classes -1 1 = IndexOutOfBoundsException
                classes 2 0 = IndexOutOfBoundsException   # the first of two
                """);
        script.run("new\n put " + ALIKE_64 + " = 0");
        script.run("""
                classes 0 1 = 1
                classes 0 63 = 63
                classes 0 64 = 64
                classOf 0 0 10 = 9
                classOf 0 54 10 = 9
                classOf 0 55 10 = 8
                """);
    }

    private static void rounds(Script script) {
        script.run("""
                # Promise 19
                new
                put = 0
                put a = 1
                put abc = 2
                put aa = 3
                put aba = 4
                put banana = 5
                put aaaa = 6
                put aaaaa = 7
                rounds 0 = 0
                rounds 1 = 1
                rounds 2 = 1
                rounds 3 = 2
                rounds 4 = 2
                rounds 5 = 3
                rounds 6 = 3
                rounds 7 = 4
                rounds 8 = IndexOutOfBoundsException
                rounds -1 = IndexOutOfBoundsException
                """);
        script.run("new\n put " + ALIKE_64 + " = 0\n rounds 0 = 7\n rounds 1 = IndexOutOfBoundsException");
    }

    private static void commons(Script script) {
        script.run("""
                # Promise 20
                new
                put banana = 0
                put = 1
                common 0 0 = 0
                common 0 1 = 1
                common 0 2 = 3
                common 0 3 = 0
                common 0 4 = 0
                common 0 5 = 2
                common 0 6 = IndexOutOfBoundsException
                common 0 -1 = IndexOutOfBoundsException
                common 1 0 = IndexOutOfBoundsException
                common 2 0 = IndexOutOfBoundsException
                common -1 0 = IndexOutOfBoundsException
                """);
        script.run("new\n put " + ALIKE_64 + " = 0");
        script.run("""
                common 0 0 = 0
                common 0 1 = 1
                common 0 63 = 63
                common 0 64 = IndexOutOfBoundsException
                """);
    }

    private static void shared(Script script) {
        script.run("""
                # Promise 21
                new
                put banana = 0
                put canal = 1
                put = 2
                shared 0 1 1 1 = 3
                shared 1 1 0 1 = 3
                shared 0 3 1 1 = 3
                shared 0 1 0 3 = 3
                shared 0 1 0 1 = 5                     # the same end
                shared 0 0 1 0 = 0
                shared 0 5 1 3 = 1
                shared 0 6 1 0 = IndexOutOfBoundsException
                shared 0 0 1 5 = IndexOutOfBoundsException
                shared 0 -1 1 0 = IndexOutOfBoundsException
                shared 0 0 1 -1 = IndexOutOfBoundsException
                shared 0 0 2 0 = IndexOutOfBoundsException
                shared 2 0 0 0 = IndexOutOfBoundsException
                shared 3 0 0 0 = IndexOutOfBoundsException
                shared 0 0 3 0 = IndexOutOfBoundsException
                shared -1 0 0 0 = IndexOutOfBoundsException
                shared 0 0 -1 0 = IndexOutOfBoundsException
                """);
    }
}
