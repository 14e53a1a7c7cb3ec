/** What "Terms" says of a MOVE, its LEGS and the BOOK, and promises 9 to 11, sentence by sentence at their boundaries. */
public final class EdgesOfBookTest {
    private static final int NONE = RunningCount.NONE;
    private static final Check CHECK = new Check("EdgesOfBookTest");

    private EdgesOfBookTest() {
    }

    public static void main(String[] args) {
        legsThereOrNot();
        overToComeDoubtful();
        spanOfOneInstant();
        stockTold();
        sureOfLegsThatAreOver();
        adjustmentsAtOrAhead();
        least();
        most();
        bookOfOtherShelvesAndItems();
        bookAnswers();
        bookOfNoSuchOnes();
        transitOfBothLegs();
        transitOfLegs();
        transitOfNoSuchOnes();
        belowTheFirst();
        belowByMost();
        belowNone();
        CHECK.end();
    }

    private static void book(RunningCount x, int shelf, int item, int t, int... want) {
        for (int what = 0; what < 4; what++) {
            CHECK.due("book(" + shelf + ", " + item + ", " + t + ", " + what + ")", x.book(shelf, item, t, what),
                    want[what]);
        }
    }

    private static void legsThereOrNot() {
        CHECK.says("each is there or not (what leaves without coming is gone, what comes without leaving is new)");
        String[] legs = {"", " from 0 5 5", " to 1 5 5", " from 0 5 5 to 1 5 5"};
        int[][] want = {{50, 50}, {41, 50}, {50, 59}, {41, 59}};
        for (int i = 0; i < legs.length; i++) {
            RunningCount x = Check.of("shelves 2;item 0 0;stock 0 0 50;stock 1 0 50;move 0 9" + legs[i] + ";");
            for (int shelf = 0; shelf < 2; shelf++) {
                book(x, shelf, 0, 4, 50, 50, 50, 0);
                int sum = want[i][shelf];
                book(x, shelf, 0, 5, sum, sum, sum, 0);
            }
        }
    }

    private static void overToComeDoubtful() {
        CHECK.says("at an instant t it IS OVER, if LATE is t or less, is TO COME, if EARLY is above t, else DOUBTFUL");
        int[][] spans = {{10, 20}, {0, 1}, {0, 999}, {998, 999}, {500, 501}};
        for (int[] span : spans) {
            String ends = span[0] + " " + span[1];
            RunningCount x = Check.of("shelves 2;item 0 0;stock 0 0 50;move 0 9 from 0 " + ends + " to 1 " + ends + ";");
            for (int t : new int[] {0, 1, 9, 10, 11, 19, 20, 21, 499, 500, 501, 997, 998, 999}) {
                if (span[1] <= t) {
                    book(x, 0, 0, t, 41, 41, 41, 0);
                    book(x, 1, 0, t, 9, 9, 9, 0);
                } else if (span[0] > t) {
                    book(x, 0, 0, t, 50, 50, 50, 0);
                    book(x, 1, 0, t, 0, 0, 0, 0);
                } else {
                    book(x, 0, 0, t, 50, 41, 50, 1);
                    book(x, 1, 0, t, 0, 0, 9, 1);
                }
            }
        }
    }

    private static void spanOfOneInstant() {
        CHECK.says("a LEG whose LATE is its EARLY is never DOUBTFUL");
        for (int at : new int[] {0, 1, 500, 998, 999}) {
            RunningCount x = Check.of("shelves 2;item 0 0;move 0 9 to 1 " + at + " " + at + ";");
            for (int t = 0; t < 1000; t += t < 5 || t > 990 ? 1 : 5) {
                int sum = t >= at ? 9 : 0;
                book(x, 1, 0, t, sum, sum, sum, 0);
            }
        }
    }

    private static void stockTold() {
        CHECK.says("SURE: the stock told (0 without)");
        RunningCount x = Check.of("shelves 2;item 0 0;item 0 0;stock 0 1 999;stock 1 0 0;");
        int[][] want = {{0, 999}, {0, 0}};
        for (int shelf = 0; shelf < 2; shelf++) {
            for (int item = 0; item < 2; item++) {
                int sum = want[shelf][item];
                book(x, shelf, item, 0, sum, sum, sum, 0);
                book(x, shelf, item, 999, sum, sum, sum, 0);
            }
        }
        // one that an older text told is not told
        Check.tell(x, "shelves 2;item 0 0;item 0 0;");
        Check.tell(x, "shelves 2;item 0 0;item 0 0;");
        book(x, 0, 1, 0, 0, 0, 0, 0);
    }

    private static void sureOfLegsThatAreOver() {
        CHECK.says("less SUMS of LEGS that LEAVE it, and SUMS of those that COME, that ARE OVER at t");
        RunningCount x = Check.of("shelves 2;item 0 0;stock 0 0 5;move 0 99 from 0 10 10;move 0 99 from 0 20 20;"
                + "move 0 98 to 0 30 30;move 0 97 to 0 30 30;move 0 1 from 0 30 30 to 0 30 30;");
        book(x, 0, 0, 9, 5, 5, 5, 0);
        book(x, 0, 0, 10, -94, -94, -94, 0);
        book(x, 0, 0, 19, -94, -94, -94, 0);
        book(x, 0, 0, 20, -193, -193, -193, 0);
        book(x, 0, 0, 29, -193, -193, -193, 0);
        book(x, 0, 0, 30, 2, 2, 2, 0);
        book(x, 0, 0, 999, 2, 2, 2, 0);
    }

    private static void adjustmentsAtOrAhead() {
        CHECK.says("and ADJUSTMENTS at t or ahead of it");
        RunningCount x = Check.of("shelves 2;item 99 0;item 99 0;stock 0 0 50;");
        x.counts(0, 0, 0, 53, 0);
        CHECK.due("post", x.post(0, 0), 3);
        x.counts(0, 0, 500, 13, 0);
        CHECK.due("post", x.post(0, 0), -40);
        x.counts(0, 0, 999, 14, 0);
        CHECK.due("post", x.post(0, 0), 1);
        int[][] want = {{0, 53}, {499, 53}, {500, 13}, {501, 13}, {998, 13}, {999, 14}};
        for (int[] row : want) {
            book(x, 0, 0, row[0], row[1], row[1], row[1], 0);
            book(x, 1, 0, row[0], 0, 0, 0, 0);
            book(x, 0, 1, row[0], 0, 0, 0, 0);
        }
    }

    private static void least() {
        CHECK.says("LEAST: SURE less SUMS of DOUBTFUL LEGS that LEAVE it");
        RunningCount x = Check.of("shelves 2;item 0 0;stock 0 0 20;move 0 8 from 0 10 30;move 0 7 from 0 20 40;"
                + "move 0 6 from 1 10 40;move 0 5 to 0 10 40;move 0 9 from 0 25 50;");
        int[][] want = {{9, 20}, {10, 12}, {19, 12}, {20, 5}, {24, 5}, {25, -4}, {29, -4}, {30, -4}, {39, -4},
            {40, 1}, {50, 1}};
        for (int[] row : want) {
            CHECK.due("LEAST at " + row[0], x.book(0, 0, row[0], 1), row[1]);
        }
    }

    private static void most() {
        CHECK.says("MOST: SURE and SUMS of DOUBTFUL ones that COME");
        RunningCount x = Check.of("shelves 2;item 0 0;stock 0 0 20;move 0 8 to 0 10 30;move 0 7 to 0 20 40;"
                + "move 0 6 to 1 10 40;move 0 5 from 0 10 40;");
        int[][] want = {{9, 20}, {10, 28}, {19, 28}, {20, 35}, {29, 35}, {30, 35}, {39, 35}, {40, 30}, {999, 30}};
        for (int[] row : want) {
            CHECK.due("MOST at " + row[0], x.book(0, 0, row[0], 2), row[1]);
        }
    }

    private static void bookOfOtherShelvesAndItems() {
        CHECK.says("The BOOK of a SHELF and an ITEM: LEGS of another SHELF, another ITEM are not in it");
        RunningCount x = Check.of("shelves 6;item 0 0;item 0 0;item 0 0;item 0 0;item 0 0;"
                + "stock 5 4 50;move 4 9 from 5 10 20 to 0 10 20;move 3 7 to 5 10 20;");
        for (int shelf = 0; shelf < 6; shelf++) {
            for (int item = 0; item < 5; item++) {
                if (shelf == 5 && item == 4) {
                    book(x, shelf, item, 15, 50, 41, 50, 1);
                } else if (shelf == 0 && item == 4) {
                    book(x, shelf, item, 15, 0, 0, 9, 1);
                } else if (shelf == 5 && item == 3) {
                    book(x, shelf, item, 15, 0, 0, 7, 1);
                } else {
                    book(x, shelf, item, 15, 0, 0, 0, 0);
                }
            }
        }
    }

    private static void bookAnswers() {
        CHECK.says("The BOOK at an instant (0 to 999): 0 SURE, 1 LEAST, 2 MOST, 3 how many LEGS are DOUBTFUL.");
        RunningCount x = Check.of("shelves 2;item 0 0;stock 0 0 20;move 0 8 from 0 0 999 to 0 0 999;move 0 3 to 0 0 0;"
                + "move 0 2 from 0 999 999;");
        book(x, 0, 0, 0, 23, 15, 31, 2);
        book(x, 0, 0, 1, 23, 15, 31, 2);
        book(x, 0, 0, 998, 23, 15, 31, 2);
        book(x, 0, 0, 999, 21, 21, 21, 0);
        RunningCount y = Check.of("shelves 2;item 0 0;" + Check.repeat("move 0 1 to 1 3 5;", 16));
        for (int move = 16; move < 40; move++) {
            y.moves(0, 1);
            y.leg(move, 0, 1, 3, 5);
        }
        book(y, 1, 0, 4, 0, -24, 16, 40);
    }

    private static void bookOfNoSuchOnes() {
        CHECK.says("book: NONE - 99999999: no such ones, another what.");
        RunningCount x = Check.of("shelves 2;item 0 0;item 0 0;stock 0 0 20;");
        int[] far = {Integer.MIN_VALUE, Integer.MAX_VALUE, -1};
        for (int what = 0; what < 4; what++) {
            for (int wrong : far) {
                CHECK.due("no such shelf", x.book(wrong, 0, 0, what), Check.NO_SUM);
                CHECK.due("no such item", x.book(0, wrong, 0, what), Check.NO_SUM);
                CHECK.due("no such instant", x.book(0, 0, wrong, what), Check.NO_SUM);
                CHECK.due("another what", x.book(0, 0, 0, wrong), Check.NO_SUM);
            }
            CHECK.due("book(2, 0, 0, " + what + ")", x.book(2, 0, 0, what), Check.NO_SUM);
            CHECK.due("book(0, 2, 0, " + what + ")", x.book(0, 2, 0, what), Check.NO_SUM);
            CHECK.due("book(0, 0, 1000, " + what + ")", x.book(0, 0, 1000, what), Check.NO_SUM);
        }
        CHECK.due("book(0, 0, 0, 4)", x.book(0, 0, 0, 4), Check.NO_SUM);
        CHECK.due("of a new object", new RunningCount().book(0, 0, 0, 0), Check.NO_SUM);
        RunningCount full = Check.of("shelves 6;" + Check.repeat("item 0 0;", 5));
        CHECK.due("book(5, 4, 999, 3)", full.book(5, 4, 999, 3), 0);
        CHECK.due("book(6, 4, 999, 3)", full.book(6, 4, 999, 3), Check.NO_SUM);
        CHECK.due("book(5, 5, 999, 3)", full.book(5, 5, 999, 3), Check.NO_SUM);
    }

    private static void transit(RunningCount x, int item, int t, int toCome, int doubtful) {
        CHECK.due("transit(" + item + ", " + t + ", 0)", x.transit(item, t, 0), toCome);
        CHECK.due("transit(" + item + ", " + t + ", 1)", x.transit(item, t, 1), doubtful);
    }

    private static void transitOfBothLegs() {
        CHECK.says("SUMS of MOVES of which both LEGS are there");
        RunningCount x = Check.of("shelves 2;item 0 0;item 0 0;move 0 9 from 0 5 5;move 0 8 to 1 50 60;move 0 7;"
                + "move 1 6 from 0 5 5 to 1 50 60;");
        for (int t : new int[] {0, 4, 5, 30, 50, 59, 60}) {
            transit(x, 0, t, 0, 0);
        }
        transit(x, 1, 30, 6, 0);
        x.leg(0, 1, 1, 50, 60);
        transit(x, 0, 30, 9, 0);
        x.leg(1, 0, 0, 5, 5);
        transit(x, 0, 30, 17, 0);
        transit(x, 0, 55, 0, 17);
    }

    private static void transitOfLegs() {
        CHECK.says("LEG 0 IS OVER and LEG 1 is not; what 0: LEG 1 is TO COME, 1: it is DOUBTFUL");
        RunningCount x = Check.of("shelves 2;item 0 0;move 0 9 from 0 10 20 to 1 30 40;move 0 5 from 1 10 50 to 0 15 60;"
                + "move 0 4 from 0 20 20 to 0 20 20;move 0 2 from 0 70 80 to 1 10 20;");
        int[][] want = {{0, 0, 0}, {10, 0, 0}, {19, 0, 0}, {20, 9, 0}, {29, 9, 0}, {30, 0, 9}, {39, 0, 9}, {40, 0, 0},
            {49, 0, 0}, {50, 0, 5}, {59, 0, 5}, {60, 0, 0}, {80, 0, 0}, {999, 0, 0}};
        for (int[] row : want) {
            transit(x, 0, row[0], row[1], row[2]);
        }
        RunningCount y = Check.of("shelves 1;item 0 0;move 0 99 from 0 0 0 to 0 1 999;");
        transit(y, 0, 0, 99, 0);
        transit(y, 0, 1, 0, 99);
        transit(y, 0, 998, 0, 99);
        transit(y, 0, 999, 0, 0);
    }

    private static void transitOfNoSuchOnes() {
        CHECK.says("transit: NONE: no such ones.");
        RunningCount x = Check.of("shelves 2;item 0 0;item 0 0;move 0 9 from 0 0 0 to 1 999 999;");
        int[][] wrong = {{-1, 5, 0}, {2, 5, 0}, {5, 5, 0}, {0, -1, 0}, {0, 1000, 0}, {0, 5, -1}, {0, 5, 2},
            {Integer.MAX_VALUE, 5, 0}, {Integer.MIN_VALUE, 5, 0}, {0, Integer.MAX_VALUE, 0}, {0, Integer.MIN_VALUE, 0},
            {0, 5, Integer.MAX_VALUE}, {0, 5, Integer.MIN_VALUE}, {-1, 5, 1}, {2, 5, 1}, {0, -1, 1}, {0, 1000, 1}};
        for (int[] c : wrong) {
            CHECK.due("transit(" + c[0] + ", " + c[1] + ", " + c[2] + ")", x.transit(c[0], c[1], c[2]), NONE);
        }
        transit(x, 1, 5, 0, 0);
        transit(x, 0, 998, 9, 0);
        CHECK.due("of a new object", new RunningCount().transit(0, 0, 0), NONE);
    }

    private static void belowTheFirst() {
        CHECK.says("The first instant at which MOST of a BOOK is below 0.");
        for (int t : new int[] {0, 1, 500, 998, 999}) {
            RunningCount x = Check.of("shelves 2;item 0 0;stock 1 0 5;move 0 6 from 1 " + t + " " + t + ";");
            CHECK.due("at " + t, x.below(1, 0), t);
            CHECK.due("another shelf", x.below(0, 0), NONE);
        }
        RunningCount y = Check.of("shelves 1;item 0 0;move 0 3 from 0 700 700;move 0 2 from 0 300 300;"
                + "move 0 1 from 0 500 500;");
        CHECK.due("of three the earliest", y.below(0, 0), 300);
        RunningCount z = Check.of("shelves 1;item 0 0;stock 0 0 2;move 0 3 from 0 300 300;move 0 1 to 0 301 301;");
        CHECK.due("for one instant alone", z.below(0, 0), 300);
    }

    private static void belowByMost() {
        CHECK.says("below: MOST, not SURE or LEAST");
        RunningCount x = Check.of("shelves 1;item 0 0;stock 0 0 5;move 0 6 from 0 100 200;");
        CHECK.due("not as long as it is doubtful", x.below(0, 0), 200);
        RunningCount y = Check.of("shelves 1;item 0 0;stock 0 0 5;move 0 6 from 0 200 200;move 0 1 to 0 200 300;");
        CHECK.due("SURE is below, MOST is not", y.below(0, 0), NONE);
        RunningCount z = Check.of("shelves 1;item 0 0;stock 0 0 5;move 0 6 from 0 200 200;move 0 1 to 0 201 300;");
        CHECK.due("it can come later alone", z.below(0, 0), 200);
        RunningCount w = Check.of("shelves 1;item 99 0;stock 0 0 5;move 0 9 to 0 10 20;");
        w.counts(0, 0, 500, 0, 0);
        CHECK.due("post", w.post(0, 0), -14);
        CHECK.due("just nothing", w.below(0, 0), NONE);
        w.moves(0, 1);
        w.leg(1, 0, 0, 0, 400);
        CHECK.due("by the adjustment", w.below(0, 0), 500);
        // an adjustment makes good what was below
        RunningCount v = Check.of("shelves 1;item 99 0;move 0 9 from 0 10 20;");
        v.counts(0, 0, 20, 3, 0);
        CHECK.due("post", v.post(0, 0), 12);
        CHECK.due("made good at the same instant", v.below(0, 0), NONE);
    }

    private static void belowNone() {
        CHECK.says("below: NONE: there is none, no such ones.");
        RunningCount x = Check.of("shelves 2;item 0 0;item 0 0;stock 0 0 5;move 0 5 from 0 10 20;move 1 1 from 0 5 5;"
                + "move 0 1 from 1 5 5;move 0 1;move 1 1 to 0 9 9;");
        CHECK.due("just nothing left", x.below(0, 0), NONE);
        CHECK.due("of nothing", x.below(1, 1), NONE);
        CHECK.due("of the other item", x.below(0, 1), 5);
        CHECK.due("of the other shelf", x.below(1, 0), 5);
        int[][] wrong = {{-1, 0}, {2, 0}, {5, 0}, {6, 0}, {0, -1}, {0, 2}, {0, 5}, {Integer.MAX_VALUE, 0},
            {Integer.MIN_VALUE, 0}, {0, Integer.MAX_VALUE}, {0, Integer.MIN_VALUE}};
        for (int[] c : wrong) {
            CHECK.due("below(" + c[0] + ", " + c[1] + ")", x.below(c[0], c[1]), NONE);
        }
        CHECK.due("of a new object", new RunningCount().below(0, 0), NONE);
    }
}
