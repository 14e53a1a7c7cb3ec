/** Objects that are as full as the document lets them be: no call throws by itself, and all is told. */
public final class FullTest {
    private static final Check CHECK = new Check("FullTest");
    private static final int[] EDGES = {Integer.MIN_VALUE, Integer.MIN_VALUE + 1, -100000000, -2, -1, 0, 1, 2, 5, 6, 10,
        39, 40, 41, 999, 1000, 9999, 10000, 1 << 30, Integer.MAX_VALUE - 1, Integer.MAX_VALUE};

    private FullTest() {
    }

    public static void main(String[] args) {
        RunningCount x = full();
        told(x);
        edges(x);
        edges(new RunningCount());
        staleRows();
        CHECK.end();
    }

    /** 6 shelves, 5 items, 40 moves with both legs, 40 counts that are posted one by one. */
    private static RunningCount full() {
        RunningCount x = Check.of("shelves 6;" + Check.repeat("item 99 99;", 5));
        for (int i = 0; i < 40; i++) {
            CHECK.due("moves", x.moves(4, 99), i);
            CHECK.due("leg 0", x.leg(i, 0, 0, 0, 999), true);
            CHECK.due("leg 1", x.leg(i, 1, 5, 999, 999), true);
        }
        for (int i = 0; i < 40; i++) {
            CHECK.due("counts", x.counts(5, 4, 2 * i, 9, i % 4), i);
            CHECK.due("post", x.post(5, 4), i == 0 ? 9 : 0);
        }
        return x;
    }

    private static void told(RunningCount x) {
        int[] want = {6, 5, 40, 40, 0, 40, 10, 0};
        for (int what = 0; what < want.length; what++) {
            CHECK.due("now(" + what + ")", x.now(what), want[what]);
        }
        CHECK.due("least", x.book(0, 4, 500, 1), -3960);
        CHECK.due("most", x.book(0, 4, 500, 2), 0);
        CHECK.due("doubtful", x.book(0, 4, 500, 3), 40);
        CHECK.due("all over", x.book(0, 4, 999, 0), -3960);
        CHECK.due("all over", x.book(5, 4, 999, 0), 3969);
        CHECK.due("below", x.below(0, 4), 999);
        CHECK.due("below", x.below(5, 4), -1);
        CHECK.due("transit", x.transit(4, 998, 0), 0);
        CHECK.due("due", x.due(), 0);
        CHECK.due("explained", x.explained(39, -1), 1);
        CHECK.due("adjusted", x.adjusted(39, 2), 78);
        CHECK.due("one more move", x.moves(0, 1), -2);
        CHECK.due("one more count", x.counts(0, 0, 1, 0, 0), -5);
        for (int i = 9; i >= 0; i--) {
            CHECK.due("undo", x.undo(), i);
        }
        CHECK.due("undo", x.undo(), -1);
        CHECK.due("left", x.now(3), 35);
    }

    /** Every call with numbers far out: only the two that may throw do, and only what they may. */
    private static void edges(RunningCount x) {
        for (int a : EDGES) {
            x.now(a);
            x.end(a);
            x.difference(a);
            x.share(a);
            x.drop(a);
            for (int b : EDGES) {
                x.item(a, b);
                Check.move(x, a, b);
                Check.count(x, a, b);
                x.below(a, b);
                x.chosen(a, b);
                x.explained(a, b);
                x.adjusted(a, b);
                x.moves(a, b);
                x.post(a, b);
                for (int c : EDGES) {
                    x.transit(a, b, c);
                    edges(x, a, b, c);
                }
            }
        }
        x.feed(Integer.MIN_VALUE, Integer.MAX_VALUE, 0, -1, 1);
        x.text();
        CHECK.due("the tape is empty", x.now(7), 0);
    }

    private static void edges(RunningCount x, int a, int b, int c) {
        for (int d : EDGES) {
            x.book(a, b, c, d);
            x.narrow(a, b, c, d);
            x.leg(a, b, c, d, 999);
            x.leg(a, b, 0, c, d);
            x.counts(a, b, c, d, 0);
            x.counts(a, b, c, 0, d);
        }
        if (c == 0) {
            x.undo();
        }
    }

    /** What an older text or an undone act has left in the rows counts no more. */
    private static void staleRows() {
        String full = "shelves 2;item 0 0;stock 0 0 9;stock 1 0 8;" + Check.repeat("move 0 9 from 0 1 5 to 1 9 9;", 16);
        RunningCount x = Check.of(full);
        Check.tell(x, full);
        Check.tell(x, "shelves 2;item 0 0;");
        CHECK.due("transit", x.transit(0, 5, 0), 0);
        CHECK.due("book", x.book(0, 0, 5, 0), 0);
        CHECK.due("book", x.book(1, 0, 9, 0), 0);
        CHECK.due("below", x.below(0, 0), -1);
        CHECK.due("moves", x.moves(0, 5), 0);
        CHECK.due("book", x.book(0, 0, 5, 0), 0);
        CHECK.due("leg 0", Check.move(x, 0, 10), -1);
        CHECK.due("leg 1", Check.move(x, 0, 22), -1);
    }
}
