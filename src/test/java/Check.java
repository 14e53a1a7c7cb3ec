import java.nio.charset.StandardCharsets;
import java.util.Arrays;
import java.util.NoSuchElementException;

/** What the tests share: comparing answers, feeding texts, and the end of a test. */
final class Check {
    static final int NO_SUM = -100000000;
    /** Stands for NoSuchElementException where answers are compared. */
    static final long THROWS = Long.MIN_VALUE;

    private final String name;
    private int right = 0;
    private int wrong = 0;
    private String sentence = "";
    private int answersAhead = -1;

    Check(String name) {
        this.name = name;
    }

    void due(String call, long got, long want) {
        if (got == want) {
            right++;
        } else {
            wrong++;
            System.out.println(name + ": " + sentence + call + " answered " + got + ", due is " + want);
        }
    }

    /** Names the sentence of the document that the answers behind this call test; it must have some. */
    void says(String next) {
        if (right + wrong == answersAhead) {
            wrong++;
            System.out.println(name + ": " + sentence + "has no test");
        }
        sentence = "\"" + next + "\": ";
        answersAhead = right + wrong;
    }

    void due(String call, boolean got, boolean want) {
        due(call, got ? 1 : 0, want ? 1 : 0);
    }

    /** All answers of both are the same now, and whenever the latest act of both has been undone. */
    void same(String call, RunningCount x, RunningCount twin) {
        int acts = twin.now(6);
        for (int i = 0; i <= acts; i++) {
            String got = all(x);
            String want = all(twin);
            if (got.equals(want)) {
                right++;
            } else {
                wrong++;
                System.out.println(name + ": " + sentence + call + ", " + i + " acts undone, left\n" + got
                        + "due is\n" + want);
            }
            due(call + ": undo()", x.undo(), twin.undo());
        }
    }

    void end() {
        says("the end");
        System.out.println(name + ": " + right + " answers as due, " + wrong + " not");
        if (wrong != 0 || right == 0) {
            System.exit(1);
        }
    }

    static byte[] bytes(String text) {
        return text.getBytes(StandardCharsets.ISO_8859_1);
    }

    static int numberAt(byte[] bytes, int at) {
        int number = 0;
        for (int i = at; i < at + 4; i++) {
            number = number << 8 | (i < bytes.length ? bytes[i] & 255 : 0);
        }
        return number;
    }

    /** Puts a text of at most 640 bytes on an empty tape. */
    static void put(RunningCount x, String text) {
        byte[] bytes = bytes(text);
        for (int i = 0; i < bytes.length; i += 20) {
            int has = x.feed(numberAt(bytes, i), numberAt(bytes, i + 4), numberAt(bytes, i + 8),
                    numberAt(bytes, i + 12), numberAt(bytes, i + 16));
            if (has != i + 20) {
                throw new IllegalStateException("the tape takes no bytes: " + has);
            }
        }
        if (!x.end(bytes.length)) {
            throw new IllegalStateException("the tape is not cut");
        }
    }

    static int tell(RunningCount x, String text) {
        put(x, text);
        return x.text();
    }

    /** A new object with a text that has no fault. */
    static RunningCount of(String text) {
        RunningCount x = new RunningCount();
        int lines = tell(x, text);
        if (lines < 0) {
            throw new IllegalStateException("fault " + x.fault() + " at " + (-1 - lines) + ": " + text);
        }
        return x;
    }

    static long move(RunningCount x, int move, int what) {
        try {
            return x.move(move, what);
        } catch (NoSuchElementException e) {
            return THROWS;
        }
    }

    static long count(RunningCount x, int count, int what) {
        try {
            return x.count(count, what);
        } catch (NoSuchElementException e) {
            return THROWS;
        }
    }

    /** An object with something of every kind: the latest ten acts are of all kinds, and all can be undone. */
    static RunningCount busy() {
        RunningCount x = of("shelves 3;item 2 10;item 0 0;stock 0 0 50;stock 1 1 20;"
                + "move 0 10 from 0 100 200 to 1 150 250;move 0 5 from 0 120 180;move 1 7 to 1 300 310;move 1 3;");
        boolean done = x.moves(0, 8) == 4
                && x.leg(4, 1, 0, 90, 400)
                && x.narrow(0, 0, 110, 190) == 20
                && x.counts(0, 0, 150, 47, 0) == 0
                && x.post(0, 0) == 0
                && x.counts(0, 0, 260, 90, 1) == 1
                && x.counts(1, 1, 50, 22, 2) == 2
                && x.counts(2, 0, 10, 1, 0) == 3
                && x.drop(3)
                && x.counts(1, 1, 60, 22, 3) == 3
                && x.now(6) == 10;
        if (!done) {
            throw new IllegalStateException("an act was refused");
        }
        return x;
    }

    private static final int[] INSTANTS = {0, 10, 49, 50, 60, 90, 110, 149, 150, 190, 260, 305, 400, 999};

    /** What an object answers, fault() aside. */
    static String all(RunningCount x) {
        StringBuilder all = new StringBuilder("now");
        for (int what = 0; what < 8; what++) {
            all.append(' ').append(x.now(what));
        }
        all.append(" due ").append(x.due()).append('\n');
        for (int move = 0; move < x.now(2); move++) {
            all.append("move ").append(move).append(':');
            for (int what : new int[] {0, 1, 10, 11, 12, 20, 21, 22}) {
                all.append(' ').append(x.move(move, what));
            }
            all.append('\n');
        }
        for (int count = 0; count < x.now(3); count++) {
            all.append("count ").append(count).append(':');
            for (int what = 0; what < 7; what++) {
                all.append(' ').append(x.count(count, what));
            }
            all.append(' ').append(x.difference(count)).append(' ').append(x.share(count))
                    .append(' ').append(x.explained(count, -1)).append(' ').append(x.explained(count, 0)).append('\n');
        }
        for (int k = 0; k < x.now(5); k++) {
            all.append("adjusted ").append(k).append(':');
            for (int what = 0; what < 4; what++) {
                all.append(' ').append(x.adjusted(k, what));
            }
            all.append('\n');
        }
        for (int item = 0; item < x.now(1); item++) {
            all.append("item ").append(x.item(item, 0)).append(' ').append(x.item(item, 1)).append(" transit");
            for (int t : INSTANTS) {
                all.append(' ').append(x.transit(item, t, 0)).append('/').append(x.transit(item, t, 1));
            }
            all.append('\n');
            appendBooks(all, x, item);
        }
        return all.toString();
    }

    private static void appendBooks(StringBuilder all, RunningCount x, int item) {
        for (int shelf = 0; shelf < x.now(0); shelf++) {
            all.append("shelf ").append(shelf).append(" item ").append(item).append(": ").append(x.chosen(shelf, item))
                    .append(' ').append(x.below(shelf, item)).append(" book");
            for (int t : INSTANTS) {
                all.append(' ').append(x.book(shelf, item, t, 0)).append('/').append(x.book(shelf, item, t, 1))
                        .append('/').append(x.book(shelf, item, t, 2)).append('/').append(x.book(shelf, item, t, 3));
            }
            all.append('\n');
        }
    }

    static String repeat(String part, int times) {
        return part.repeat(times);
    }

    static String blanks(int many) {
        char[] signs = new char[many];
        Arrays.fill(signs, ' ');
        return new String(signs);
    }
}
