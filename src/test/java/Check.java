import java.nio.charset.StandardCharsets;
import java.util.Arrays;
import java.util.NoSuchElementException;

/** What the tests share: comparing answers, feeding texts, and the end of a test. */
final class Check {
    static final int NO_SUM = -100000000;
    /** Stands for NoSuchElementException where answers are compared. */
    static final long THROWS = Long.MIN_VALUE;

    private final String name;
    private int right = 0;
    private int wrong = 0;

    Check(String name) {
        this.name = name;
    }

    void due(String call, long got, long want) {
        if (got == want) {
            right++;
        } else {
            wrong++;
            System.out.println(name + ": " + call + " answered " + got + ", due is " + want);
        }
    }

    void due(String call, boolean got, boolean want) {
        due(call, got ? 1 : 0, want ? 1 : 0);
    }

    void end() {
        System.out.println(name + ": " + right + " answers as due, " + wrong + " not");
        if (wrong != 0 || right == 0) {
            System.exit(1);
        }
    }

    static byte[] bytes(String text) {
        return text.getBytes(StandardCharsets.ISO_8859_1);
    }

    static int numberAt(byte[] bytes, int at) {
        int number = 0;
        for (int i = at; i < at + 4; i++) {
            number = number << 8 | (i < bytes.length ? bytes[i] & 255 : 0);
        }
        return number;
    }

    /** Puts a text of at most 640 bytes on an empty tape. */
    static void put(RunningCount x, String text) {
        byte[] bytes = bytes(text);
        for (int i = 0; i < bytes.length; i += 20) {
            int has = x.feed(numberAt(bytes, i), numberAt(bytes, i + 4), numberAt(bytes, i + 8),
                    numberAt(bytes, i + 12), numberAt(bytes, i + 16));
            if (has != i + 20) {
                throw new IllegalStateException("the tape takes no bytes: " + has);
            }
        }
        if (!x.end(bytes.length)) {
            throw new IllegalStateException("the tape is not cut");
        }
    }

    static int tell(RunningCount x, String text) {
        put(x, text);
        return x.text();
    }

    /** A new object with a text that has no fault. */
    static RunningCount of(String text) {
        RunningCount x = new RunningCount();
        int lines = tell(x, text);
        if (lines < 0) {
            throw new IllegalStateException("fault " + x.fault() + " at " + (-1 - lines) + ": " + text);
        }
        return x;
    }

    static long move(RunningCount x, int move, int what) {
        try {
            return x.move(move, what);
        } catch (NoSuchElementException e) {
            return THROWS;
        }
    }

    static long count(RunningCount x, int count, int what) {
        try {
            return x.count(count, what);
        } catch (NoSuchElementException e) {
            return THROWS;
        }
    }

    static String repeat(String part, int times) {
        return part.repeat(times);
    }

    static String blanks(int many) {
        char[] signs = new char[many];
        Arrays.fill(signs, ' ');
        return new String(signs);
    }
}
