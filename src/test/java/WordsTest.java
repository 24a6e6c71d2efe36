/** Promises 22 to 33. */
public final class WordsTest {
    private static final String ALIKE_64 = "a".repeat(64);

    public static void main(String[] args) {
        Script script = new Script("WordsTest");
        stands(script);
        noWord(script);
        tail(script);
        wordsByNumber(script);
        twice(script);
        once(script);
        longestIn(script);
        script.end();
    }

    private static void stands(Script script) {
        script.run("""
                # Promises 22, 23 and 24
                new
                put banana = 0
                put = 1
                spell ana
                count 0 = 2
                runFrom 0 = 1
                standsAt 0 0 = 1
                standsAt 0 1 = 3
                standsAt 0 2 = NoSuchElementException
                standsAt 0 -1 = NoSuchElementException
                standsAt 0 2147483647 = NoSuchElementException
                count 1 = 0
                runFrom 1 = NoSuchElementException
                standsAt 1 0 = NoSuchElementException
                row = ana
                spell a
                count 0 = 3
                runFrom 0 = 0
                standsAt 0 0 = 1                       # by places, not by ranks
                standsAt 0 1 = 3
                standsAt 0 2 = 5
                standsAt 0 3 = NoSuchElementException
                spell banana
                count 0 = 1
                runFrom 0 = 3
                standsAt 0 0 = 0
                spell bananas
                count 0 = 0
                runFrom 0 = NoSuchElementException
                standsAt 0 0 = NoSuchElementException
                spell nana
                runFrom 0 = 5
                spell nab
                count 0 = 0
                runFrom 0 = NoSuchElementException
                spell z
                count 0 = 0
                runFrom 0 = NoSuchElementException
                """);
        script.run("new\n put " + ALIKE_64 + " = 0\n spell " + ALIKE_64);
        script.run("""
                count 0 = 1
                runFrom 0 = 63
                type a = 65                            # longer than any text
                count 0 = 0
                runFrom 0 = NoSuchElementException
                standsAt 0 0 = NoSuchElementException
                spell aaaa
                count 0 = 61
                runFrom 0 = 3
                standsAt 0 60 = 60
                standsAt 0 61 = NoSuchElementException
                """);
    }

    private static void noWord(Script script) {
        for (String row : new String[] {"", "$", "an$", "a$n"}) {
            script.run("new\n put banana = 0\n put = 1\n spell " + row);
            script.run("""
                    count 0 = UnsupportedOperationException
                    count 1 = UnsupportedOperationException
                    count 2 = IndexOutOfBoundsException  # the first of two
                    count -1 = IndexOutOfBoundsException
                    runFrom 0 = UnsupportedOperationException
                    runFrom 1 = UnsupportedOperationException
                    runFrom 2 = IndexOutOfBoundsException
                    standsAt 0 0 = UnsupportedOperationException
                    standsAt 0 -1 = UnsupportedOperationException
                    standsAt 0 99 = UnsupportedOperationException
                    standsAt 2 0 = IndexOutOfBoundsException
                    tail 0 1 = UnsupportedOperationException
                    tail 0 0 = UnsupportedOperationException
                    tail 0 99 = UnsupportedOperationException
                    tail 2 1 = IndexOutOfBoundsException
                    numberOf 0 = UnsupportedOperationException
                    numberOf 1 = UnsupportedOperationException
                    numberOf 2 = IndexOutOfBoundsException
                    """);
            script.run("row = " + row);
        }
        script.run("""
                spell a
                count 2 = IndexOutOfBoundsException
                runFrom 2 = IndexOutOfBoundsException
                standsAt 2 0 = IndexOutOfBoundsException
                standsAt -1 0 = IndexOutOfBoundsException
                tail 2 1 = IndexOutOfBoundsException
                tail 2 0 = IndexOutOfBoundsException
                numberOf 2 = IndexOutOfBoundsException
                """);
    }

    private static void tail(Script script) {
        script.run("""
                # Promise 25
                new
                put banana = 0
                put = 1
                spell xbana
                tail 0 1 = 3
                tail 0 2 = 2
                tail 0 3 = 2
                tail 0 4 = 1
                tail 0 5 = 0
                tail 0 6 = IllegalArgumentException
                tail 0 0 = IllegalArgumentException
                tail 0 -1 = IllegalArgumentException
                tail 0 65 = IllegalArgumentException
                tail 0 -2147483648 = IllegalArgumentException
                tail 1 1 = 0
                tail 1 6 = IllegalArgumentException
                row = xbana
                """);
        script.run("new\n put " + ALIKE_64 + " = 0\n spell " + ALIKE_64 + "a");
        script.run("""
                tail 0 65 = 0
                tail 0 64 = 1
                tail 0 1 = 64
                tail 0 66 = IllegalArgumentException
                """);
    }

    private static void wordsByNumber(Script script) {
        script.run("""
                # Promises 26, 27 and 28
                new
                put = 0
                put a = 1
                put banana = 2
                put abc = 3
                words 0 = 0
                words 1 = 1
                words 2 = 15
                words 3 = 6
                words 4 = IndexOutOfBoundsException
                words -1 = IndexOutOfBoundsException
                """);
        // all words of banana, the least first
        String[] words = {"a", "an", "ana", "anan", "anana", "b", "ba", "ban", "bana", "banan", "banana", "n", "na",
            "nan", "nana"};
        for (int i = 0; i < words.length; i++) {
            script.run("spell zz\n word 2 " + i + " = " + words[i].length() + "\n row = " + words[i]);
            script.run("numberOf 2 = " + i);
        }
        script.run("""
                spell $x
                word 2 15 = NoSuchElementException
                word 2 -1 = NoSuchElementException
                word 2 2147483647 = NoSuchElementException
                word 0 0 = NoSuchElementException
                word 4 0 = IndexOutOfBoundsException
                word -1 0 = IndexOutOfBoundsException
                word 4 -1 = IndexOutOfBoundsException    # the first of two
                row = $x
                word 1 0 = 1
                row = a
                word 1 1 = NoSuchElementException
                numberOf 0 = NoSuchElementException
                spell bananas
                numberOf 2 = NoSuchElementException
                spell c
                numberOf 2 = NoSuchElementException
                numberOf 3 = 5
                """);
        script.run("new\n put " + ALIKE_64 + " = 0\n words 0 = 64\n word 0 63 = 64\n row = " + ALIKE_64);
        script.run("numberOf 0 = 63\n word 0 64 = NoSuchElementException\n type a = 65");
        script.run("numberOf 0 = NoSuchElementException");
    }

    private static void twice(Script script) {
        script.run("""
                # Promises 29 and 30
                new
                put = 0
                put abc = 1
                put aa = 2
                put banana = 3
                put cdxabycdzab = 4                    # ab, at 3, comes ahead of cd, at 0
                put abxaby = 5
                put xabcyabczabc = 6                   # three times
                twice 0 = 0
                twice 1 = 0
                twice 2 = 1
                twice 3 = 3
                twice 4 = 2
                twice 5 = 2
                twice 6 = 3
                twice 7 = IndexOutOfBoundsException
                twice -1 = IndexOutOfBoundsException
                twiceAt 0 = NoSuchElementException
                twiceAt 1 = NoSuchElementException
                twiceAt 2 = 0
                twiceAt 3 = 1
                twiceAt 4 = 3
                twiceAt 5 = 0
                twiceAt 6 = 1
                twiceAt 7 = IndexOutOfBoundsException
                twiceAt -1 = IndexOutOfBoundsException
                """);
        script.run("new\n put " + ALIKE_64 + " = 0\n twice 0 = 63\n twiceAt 0 = 0");
    }

    private static void once(Script script) {
        script.run("""
                # Promises 31 and 32
                new
                put = 0
                put a = 1
                put banana = 2
                put aaaa = 3
                put abab = 4                           # ba
                put aabbaab = 5                        # bb at 2, ba at 3
                put abcab = 6
                once 0 = NoSuchElementException
                once 1 = 1
                once 2 = 1
                once 3 = 4
                once 4 = 2
                once 5 = 2
                once 6 = 1
                once 7 = IndexOutOfBoundsException
                once -1 = IndexOutOfBoundsException
                onceAt 0 = NoSuchElementException
                onceAt 1 = 0
                onceAt 2 = 0
                onceAt 3 = 0
                onceAt 4 = 1
                onceAt 5 = 2
                onceAt 6 = 2
                onceAt 7 = IndexOutOfBoundsException
                onceAt -1 = IndexOutOfBoundsException
                """);
    }

    private static void longestIn(Script script) {
        script.run("""
                # Promise 33
                new
                longestIn 1 = NoSuchElementException     # no texts at all
                put = 0
                longestIn 1 = NoSuchElementException
                put xcdeyab = 1
                put abzcde = 2
                put cdqabw = 3
                put ba = 4
                spell $q
                longestIn 0 = IllegalArgumentException
                longestIn 9 = IllegalArgumentException
                longestIn -1 = IllegalArgumentException
                longestIn 5 = NoSuchElementException
                longestIn 8 = NoSuchElementException
                row = $q
                longestIn 1 = 7
                row = xcdeyab
                longestIn 2 = 3
                row = cde
                longestIn 3 = 2
                row = ab                               # less than cd
                longestIn 4 = 1
                row = a                                # less than b
                holds 1 = xcdeyab
                put a = 5
                longestIn 5 = 1
                longestIn 6 = NoSuchElementException
                new
                put dog = 0
                put cat = 1
                longestIn 1 = 3
                row = cat                              # of like ones the least
                longestIn 2 = NoSuchElementException
                put aaaa = 2
                longestIn 2 = 1
                row = a
                longestIn 3 = NoSuchElementException     # twice in one text is not in two
                new
                """);
        for (int i = 0; i < 8; i++) {
            script.run("put " + ALIKE_64.substring(0, 64 - i) + " = " + i);
        }
        script.run("""
                longestIn 8 = 57
                longestIn 7 = 58
                longestIn 1 = 64
                """);
    }
}
