/** What the tests share: checks that count, and the tape. */
final class Check {
    private int right;
    private int wrong;

    /** A call whose answer, or exception, is looked at. */
    interface Call {
        Object make();
    }

    void same(String what, Object due, Object got) {
        if (due.equals(got)) {
            right++;
        } else {
            wrong++;
            System.out.println(what + ": answered " + got + ", due is " + due);
        }
    }

    /** Due is an answer, or the class of an exception. */
    void due(String what, Object due, Call call) {
        same(what, due, outcome(call));
    }

    static Object outcome(Call call) {
        try {
            return call.make();
        } catch (RuntimeException e) {
            return e.getClass();
        }
    }

    /** Five numbers of the twenty bytes from a place on, nothing behind the end. */
    static int[] packed(byte[] bytes, int from) {
        int[] numbers = new int[5];
        for (int i = 0; i < 20; i++) {
            int b = from + i < bytes.length ? bytes[from + i] & 255 : 0;
            numbers[i / 4] |= b << 24 - 8 * (i % 4);
        }
        return numbers;
    }

    static byte[] bytes(String text) {
        return text.getBytes(java.nio.charset.StandardCharsets.ISO_8859_1);
    }

    /** Puts a text on an empty tape. */
    static void tape(CyclicLines x, byte[] bytes) {
        for (int from = 0; from < bytes.length; from += 20) {
            int[] n = packed(bytes, from);
            x.feed(n[0], n[1], n[2], n[3], n[4]);
        }
        x.end(bytes.length);
    }

    static void tape(CyclicLines x, String text) {
        tape(x, bytes(text));
    }

    static int lines(CyclicLines x, String text) {
        tape(x, text);
        return x.lines();
    }

    static int law(CyclicLines x, String text) {
        tape(x, text);
        return x.law();
    }

    static CyclicLines of(String text) {
        CyclicLines x = new CyclicLines();
        lines(x, text);
        return x;
    }

    /** Ends the program: with exit code 1 if a check was wrong. */
    void end(String name) {
        System.out.println(name + ": " + right + " right, " + wrong + " wrong");
        if (wrong != 0 || right == 0) {
            System.exit(1);
        }
    }
}
