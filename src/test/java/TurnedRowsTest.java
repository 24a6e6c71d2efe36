/** Promises 34 to 40. */
public final class TurnedRowsTest {
    private static final String LONG_64 = "abcdefgh".repeat(8);

    public static void main(String[] args) {
        Script script = new Script("TurnedRowsTest");
        columns(script);
        wrongRows(script);
        runs(script);
        front(script);
        column(script);
        undo(script);
        script.end();
    }

    /** Rows of banana$, by their places: 6 5 3 1 0 4 2. */
    private static void columns(Script script) {
        script.run("""
                # Promises 34, 35 and 36
                new
                put banana = 0
                put = 1
                first 0 0 = $
                first 0 1 = a
                first 0 3 = a
                first 0 4 = b
                first 0 5 = n
                first 0 6 = n
                last 0 0 = a
                last 0 1 = n
                last 0 2 = n
                last 0 3 = b
                last 0 4 = $
                last 0 5 = a
                last 0 6 = a
                back 0 0 = 1
                back 0 1 = 5
                back 0 2 = 6
                back 0 3 = 4
                back 0 4 = 0                           # going round
                back 0 5 = 2
                back 0 6 = 3
                first 1 0 = $
                last 1 0 = $
                back 1 0 = 0
                """);
    }

    private static void wrongRows(Script script) {
        for (String call : new String[] {"first", "last", "back", "front"}) {
            script.run("new\n put banana = 0\n put = 1");
            for (String arguments : new String[] {"0 7", "0 -1", "0 65", "1 1", "1 -1", "2 0", "-1 0", "8 0"}) {
                script.run(call + " " + arguments + " = IndexOutOfBoundsException");
            }
        }
    }

    private static void runs(Script script) {
        script.run("""
                # Promise 37
                new
                put banana = 0                         # annb$aa
                put = 1
                put aaaa = 2                           # aaaa$
                put abc = 3                            # c$ab
                runs 0 = 5
                runs 1 = 1
                runs 2 = 2
                runs 3 = 4
                runs 4 = IndexOutOfBoundsException
                runs -1 = IndexOutOfBoundsException
                """);
    }

    private static void front(Script script) {
        script.run("""
                # Promise 38
                new
                put banana = 0                         # annb$aa
                put = 1
                put z = 2                              # z$
                front 0 0 = 1
                front 0 1 = 14
                front 0 2 = 0
                front 0 3 = 3
                front 0 4 = 3
                front 0 5 = 3
                front 0 6 = 0
                front 1 0 = 0
                front 2 0 = 26
                front 2 1 = 1
                """);
    }

    private static void column(Script script) {
        script.run("""
                # Promise 39
                new
                put banana = 0
                put = 1
                spell elephants
                column 0 = 7
                row = annb$aa
                column 1 = 1
                row = $
                holds 0 = banana
                column 2 = IndexOutOfBoundsException
                column -1 = IndexOutOfBoundsException
                row = $
                """);
        script.run("new\n put " + LONG_64 + " = 0\n column 0 = 65");
        // each sign's ends stand together, and the sign ahead of them is one and the same
        script.run("row = h" + "h".repeat(7) + "$" + "a".repeat(8) + "b".repeat(8) + "c".repeat(8) + "d".repeat(8)
                + "e".repeat(8) + "f".repeat(8) + "g".repeat(8));
        script.run("undo = 1\n holds 1 = " + LONG_64);
    }

    private static void undo(Script script) {
        script.run("""
                # Promise 40
                new
                spell annb$aa
                undo = 0
                holds 0 = banana
                row = annb$aa                          # it stays
                endAt 0 0 = 5
                spell $
                undo = 1
                holds 1 =
                spell a$
                undo = 2
                holds 2 = a
                spell aaa$
                undo = 3
                holds 3 = aaa
                spell
                undo = UnsupportedOperationException
                spell abc
                undo = UnsupportedOperationException
                spell a$b$
                undo = UnsupportedOperationException
                spell $$
                undo = UnsupportedOperationException
                spell $a                               # two rounds
                undo = UnsupportedOperationException
                spell a$a
                undo = UnsupportedOperationException
                spell aba$
                undo = UnsupportedOperationException
                row = aba$
                length 4 = IndexOutOfBoundsException
                """);
        script.run("spell " + LONG_64 + "a\n undo = UnsupportedOperationException");
        script.run("""
                put a = 4
                put b = 5
                put c = 6
                spell b$                               # the 8th
                undo = 7
                undo = IllegalStateException
                row = b$
                length 8 = IndexOutOfBoundsException
                spell bb
                undo = UnsupportedOperationException    # the first of two
                """);
    }
}
