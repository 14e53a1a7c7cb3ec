/** Promises 9 to 11: book, transit, below. */
public final class BookTest {
    private static final int NONE = RunningCount.NONE;
    private static final Check CHECK = new Check("BookTest");

    private BookTest() {
    }

    public static void main(String[] args) {
        bookOfSpans();
        bookOfOneShelfTwice();
        bookOfAdjustments();
        wrongBooks();
        transit();
        wrongTransit();
        below();
        belowByAdjustment();
        CHECK.end();
    }

    private static void book(RunningCount x, int shelf, int t, int... want) {
        for (int what = 0; what < 4; what++) {
            CHECK.due("book(" + shelf + ", 0, " + t + ", " + what + ")", x.book(shelf, 0, t, what), want[what]);
        }
    }

    private static void bookOfSpans() {
        RunningCount x = Check.of("shelves 2;item 0 0;item 0 0;stock 0 0 50;"
                + "move 0 10 from 0 100 200 to 1 150 250;move 1 44 from 0 0 999 to 1 0 999;move 0 3;");
        book(x, 0, 0, 50, 50, 50, 0);
        book(x, 0, 99, 50, 50, 50, 0);
        book(x, 0, 100, 50, 40, 50, 1);
        book(x, 0, 199, 50, 40, 50, 1);
        book(x, 0, 200, 40, 40, 40, 0);
        book(x, 0, 999, 40, 40, 40, 0);
        book(x, 1, 149, 0, 0, 0, 0);
        book(x, 1, 150, 0, 0, 10, 1);
        book(x, 1, 249, 0, 0, 10, 1);
        book(x, 1, 250, 10, 10, 10, 0);
    }

    private static void bookOfOneShelfTwice() {
        RunningCount x = Check.of("shelves 1;item 0 0;stock 0 0 5;move 0 9 from 0 10 20 to 0 15 30;");
        book(x, 0, 9, 5, 5, 5, 0);
        book(x, 0, 10, 5, -4, 5, 1);
        book(x, 0, 15, 5, -4, 14, 2);
        book(x, 0, 20, -4, -4, 5, 1);
        book(x, 0, 30, 5, 5, 5, 0);
    }

    private static void bookOfAdjustments() {
        RunningCount x = Check.of("shelves 2;item 99 0;item 99 0;stock 0 0 50;");
        x.counts(0, 0, 100, 53, 0);
        CHECK.due("post", x.post(0, 0), 3);
        x.counts(0, 0, 200, 40, 0);
        CHECK.due("post", x.post(0, 0), -13);
        book(x, 0, 99, 50, 50, 50, 0);
        book(x, 0, 100, 53, 53, 53, 0);
        book(x, 0, 199, 53, 53, 53, 0);
        book(x, 0, 200, 40, 40, 40, 0);
        book(x, 1, 200, 0, 0, 0, 0);
        CHECK.due("of another item", x.book(0, 1, 200, 0), 0);
    }

    private static void wrongBooks() {
        RunningCount x = Check.of("shelves 2;item 0 0;stock 0 0 50;");
        CHECK.due("book(1, 0, 0, 0)", x.book(1, 0, 0, 0), 0);
        int[][] wrong = {{2, 0, 0, 0}, {-1, 0, 0, 0}, {0, 1, 0, 0}, {0, -1, 0, 0}, {0, 0, -1, 0}, {0, 0, 1000, 0},
            {0, 0, 0, 4}, {0, 0, 0, -1}, {Integer.MAX_VALUE, 0, 0, 0}, {0, Integer.MIN_VALUE, 0, 0}};
        for (int[] c : wrong) {
            CHECK.due("wrong book", x.book(c[0], c[1], c[2], c[3]), Check.NO_SUM);
        }
    }

    private static void transit() {
        RunningCount x = Check.of("shelves 2;item 0 0;item 0 0;"
                + "move 0 10 from 0 100 200 to 1 300 400;move 0 7 from 0 100 200;move 0 5 to 1 300 400;"
                + "move 0 3 from 0 0 0 to 1 200 201;move 1 90 from 0 0 0 to 0 1 999;");
        int[][] want = {{0, 3, 0}, {199, 3, 0}, {200, 10, 3}, {201, 10, 0}, {299, 10, 0}, {300, 0, 10},
            {399, 0, 10}, {400, 0, 0}, {999, 0, 0}};
        for (int[] row : want) {
            CHECK.due("transit(0, " + row[0] + ", 0)", x.transit(0, row[0], 0), row[1]);
            CHECK.due("transit(0, " + row[0] + ", 1)", x.transit(0, row[0], 1), row[2]);
        }
        CHECK.due("transit(1, 0, 0)", x.transit(1, 0, 0), 90);
        CHECK.due("transit(1, 998, 1)", x.transit(1, 998, 1), 90);
        // LEG 1 that may be over ahead of LEG 0 is not in transit
        RunningCount y = Check.of("shelves 2;item 0 0;move 0 10 from 0 100 200 to 1 50 60;");
        CHECK.due("over already", y.transit(0, 200, 0) + y.transit(0, 200, 1), 0);
    }

    private static void wrongTransit() {
        RunningCount x = Check.of("shelves 2;item 0 0;move 0 10 from 0 0 0 to 1 1 1;");
        CHECK.due("transit(0, 0, 0)", x.transit(0, 0, 0), 10);
        int[][] wrong = {{1, 0, 0}, {-1, 0, 0}, {0, -1, 0}, {0, 1000, 0}, {0, 0, 2}, {0, 0, -1}};
        for (int[] c : wrong) {
            CHECK.due("wrong transit", x.transit(c[0], c[1], c[2]), NONE);
        }
    }

    private static void below() {
        RunningCount x = Check.of("shelves 3;item 0 0;item 0 0;stock 0 0 5;stock 1 0 5;stock 2 0 5;"
                + "move 0 6 from 0 700 800;move 0 6 from 0 100 300;move 0 1 to 0 200 310;"
                + "move 0 5 from 1 0 0;move 0 6 from 2 0 0;move 1 9 from 0 10 20 to 0 25 30;");
        CHECK.due("a leg that may have come", x.below(0, 0), 800);
        CHECK.due("just nothing", x.below(1, 0), NONE);
        CHECK.due("at once", x.below(2, 0), 0);
        CHECK.due("until it comes again", x.below(0, 1), 20);
        CHECK.due("nothing moves", x.below(1, 1), NONE);
        CHECK.due("narrow", x.narrow(2, 1, 301, 310), 101);
        CHECK.due("it comes too late", x.below(0, 0), 300);
        int[][] wrong = {{3, 0}, {-1, 0}, {0, 2}, {0, -1}};
        for (int[] c : wrong) {
            CHECK.due("wrong below", x.below(c[0], c[1]), NONE);
        }
        RunningCount y = Check.of("shelves 1;item 0 0;move 0 1 from 0 0 999;");
        CHECK.due("at the last instant", y.below(0, 0), 999);
    }

    private static void belowByAdjustment() {
        RunningCount x = Check.of("shelves 1;item 99 0;stock 0 0 50;move 0 20 to 0 600 600;");
        x.counts(0, 0, 500, 0, 0);
        CHECK.due("post", x.post(0, 0), -50);
        CHECK.due("just nothing", x.below(0, 0), NONE);
        x.moves(0, 10);
        x.leg(1, 0, 0, 400, 450);
        // by a leg that is told later the adjustment takes too much
        CHECK.due("by an adjustment", x.below(0, 0), 500);
        x.moves(0, 45);
        x.leg(2, 0, 0, 0, 300);
        CHECK.due("of adjustment and leg the first", x.below(0, 0), 450);
    }
}
