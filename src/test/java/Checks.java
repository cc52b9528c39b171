import java.nio.charset.StandardCharsets;

/** What the tests share: due answers, and suits from texts. */
final class Checks {
    private int wrong = 0;

    void due(String call, long got, long want) {
        if (got != want) {
            wrong++;
            System.out.println(call + " answered " + got + ", due is " + want);
        }
    }

    int wrong() {
        return wrong;
    }

    /** Ends the program: with exit code 1 if an answer was wrong. */
    void end(String test) {
        System.out.println(test + ": " + (wrong == 0 ? "all as due" : wrong + " not as due"));
        if (wrong != 0) {
            System.exit(1);
        }
    }

    static void tell(SuitByTailors x, String text) {
        byte[] bytes = text.getBytes(StandardCharsets.ISO_8859_1);
        for (int at = 0; at < bytes.length; at += 8) {
            int n = Math.min(8, bytes.length - at);
            long v = 0;
            for (int i = 0; i < n; i++) {
                v = v << 8 | bytes[at + i] & 255;
            }
            x.write(n, v);
        }
    }

    /** A new object whose THE TEXT is this one. */
    static SuitByTailors told(String text) {
        SuitByTailors x = new SuitByTailors();
        tell(x, text);
        return x;
    }

    /** A new object that this text is LAID in. */
    static SuitByTailors laid(String text) {
        SuitByTailors x = told(text);
        if (x.lay() < 1) {
            throw new IllegalStateException("not laid: " + text);
        }
        return x;
    }
}
