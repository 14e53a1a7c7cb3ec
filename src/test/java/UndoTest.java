/** Promise 25: undo. */
public final class UndoTest {
    private static final int NONE = RunningCount.NONE;
    private static final Check CHECK = new Check("UndoTest");

    private UndoTest() {
    }

    public static void main(String[] args) {
        eachKind();
        tenAtMost();
        refusedCallsAreNoActs();
        droppedCounts();
        postedCounts();
        CHECK.end();
    }

    private static void eachKind() {
        RunningCount x = Check.of("shelves 2;item 2 0;stock 0 0 50;move 0 4 from 0 10 90;");
        CHECK.due("nothing", x.undo(), NONE);
        x.moves(0, 7);
        x.leg(1, 1, 0, 20, 30);
        x.narrow(0, 0, 15, 80);
        x.counts(0, 0, 5, 51, 1);
        x.post(0, 0);
        x.counts(1, 0, 6, 1, 1);
        x.drop(1);
        CHECK.due("seven", x.now(6), 7);
        CHECK.due("undo drop", x.undo(), 6);
        CHECK.due("the count is there", Check.count(x, 1, 2), 6);
        CHECK.due("undo counts", x.undo(), 5);
        CHECK.due("it is not", x.now(3), 1);
        CHECK.due("undo post", x.undo(), 4);
        CHECK.due("no adjustment", x.now(5), 0);
        CHECK.due("open", Check.count(x, 0, 5), 0);
        CHECK.due("book", x.book(0, 0, 5, 0), 50);
        CHECK.due("undo counts", x.undo(), 3);
        CHECK.due("none", x.now(3), 0);
        CHECK.due("undo narrow", x.undo(), 2);
        CHECK.due("early", Check.move(x, 0, 11), 10);
        CHECK.due("late", Check.move(x, 0, 12), 90);
        CHECK.due("the shelf stays", Check.move(x, 0, 10), 0);
        CHECK.due("undo leg", x.undo(), 1);
        for (int what = 20; what < 23; what++) {
            CHECK.due("move(1, " + what + ")", Check.move(x, 1, what), NONE);
        }
        CHECK.due("undo moves", x.undo(), 0);
        CHECK.due("one move", x.now(2), 1);
        CHECK.due("no more", x.undo(), NONE);
        CHECK.due("now(6)", x.now(6), 0);
    }

    private static void tenAtMost() {
        RunningCount x = Check.of("shelves 1;item 0 0;");
        for (int i = 1; i <= 23; i++) {
            x.moves(0, i);
            CHECK.due("kept " + i, x.now(6), Math.min(i, 10));
        }
        for (int i = 9; i >= 5; i--) {
            CHECK.due("undo", x.undo(), i);
        }
        x.moves(0, 99);
        x.leg(18, 0, 0, 1, 2);
        CHECK.due("kept", x.now(6), 7);
        for (int i = 6; i >= 0; i--) {
            CHECK.due("undo", x.undo(), i);
        }
        CHECK.due("no more", x.undo(), NONE);
        CHECK.due("moves left", x.now(2), 13);
        CHECK.due("the last", Check.move(x, 12, 1), 13);
    }

    private static void refusedCallsAreNoActs() {
        RunningCount x = Check.of("shelves 1;item 0 0;move 0 1 from 0 5 6;");
        x.counts(0, 0, 1, 5, 0);
        x.moves(0, 0);
        x.leg(0, 0, 0, 1, 2);
        x.narrow(0, 0, 4, 6);
        x.counts(0, 0, 1, 5, 1);
        x.counts(0, 0, 2, 5, 0);
        x.post(0, 0);
        x.drop(1);
        x.feed(0, 0, 0, 0, 0);
        x.end(0);
        x.text();
        CHECK.due("one alone", x.now(6), 1);
        CHECK.due("undo", x.undo(), 0);
        CHECK.due("no counts", x.now(3), 0);
    }

    private static void droppedCounts() {
        RunningCount x = Check.of("shelves 2;item 9 0;item 9 0;");
        x.counts(1, 1, 44, 555, 3);
        x.counts(0, 0, 1, 0, 0);
        x.counts(0, 1, 2, 7, 1);
        x.post(0, 0);
        x.drop(0);
        CHECK.due("drop again", x.drop(1), true);
        CHECK.due("undo", x.undo(), 5);
        CHECK.due("undo", x.undo(), 4);
        int[][] want = {{1, 1, 44, 555, 3, 0}, {0, 0, 1, 0, 0, 1}, {0, 1, 2, 7, 1, 0}};
        for (int count = 0; count < 3; count++) {
            for (int what = 0; what < 6; what++) {
                CHECK.due("count(" + count + ", " + what + ")", Check.count(x, count, what), want[count][what]);
            }
        }
        CHECK.due("undo the post", x.undo(), 3);
        CHECK.due("open", x.now(4), 3);
    }

    private static void postedCounts() {
        RunningCount x = Check.of("shelves 1;item 0 0;stock 0 0 10;");
        x.counts(0, 0, 10, 10, 0);
        x.counts(0, 0, 20, 15, 1);
        x.counts(0, 0, 30, 25, 2);
        x.counts(0, 0, 40, 20, 3);
        CHECK.due("post the first", x.post(0, 0), 0);
        CHECK.due("post of three", x.post(0, 0), 10);
        int[] want = {1, 1, 1, 1};
        for (int i = 0; i < want.length; i++) {
            CHECK.due("count(" + i + ", 5)", Check.count(x, i, 5), want[i]);
        }
        CHECK.due("undo", x.undo(), 5);
        CHECK.due("open again", x.now(4), 3);
        CHECK.due("the first stays posted", Check.count(x, 0, 5), 1);
        CHECK.due("one adjustment", x.now(5), 1);
        CHECK.due("the same again", x.post(0, 0), 10);
        CHECK.due("adjusted(1, 2)", x.adjusted(1, 2), 40);
    }
}
