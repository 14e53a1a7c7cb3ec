/** Promises 12 to 18 and 22 to 24: counts, what is said of them, adjustments. */
public final class CountTest {
    private static final int NONE = RunningCount.NONE;
    private static final Check CHECK = new Check("CountTest");

    private CountTest() {
    }

    public static void main(String[] args) {
        count();
        wrongCounts();
        refusedCounts();
        fortyCounts();
        difference();
        allowed();
        share();
        chosenFirst();
        chosenOfTwo();
        chosenOfThree();
        chosenByInstants();
        chosenWrong();
        due();
        explained();
        explainedOrder();
        explainedOfTenAndEleven();
        adjusted();
        post();
        drop();
        CHECK.end();
    }

    private static void count() {
        RunningCount x = Check.of("shelves 3;item 0 0;item 4 0;");
        CHECK.due("counts", x.counts(2, 1, 999, 9999, 3), 0);
        CHECK.due("counts", x.counts(0, 0, 0, 0, 0), 1);
        int[][] want = {{2, 1, 999, 9999, 3, 0, 4}, {0, 0, 0, 0, 0, 0, 0}};
        for (int count = 0; count < 2; count++) {
            for (int what = 0; what < 7; what++) {
                CHECK.due("count(" + count + ", " + what + ")", Check.count(x, count, what), want[count][what]);
            }
        }
        x.post(0, 0);
        CHECK.due("count(1, 5)", Check.count(x, 1, 5), 1);
        CHECK.due("count(0, 5)", Check.count(x, 0, 5), 0);
        for (int[] c : new int[][] {{2, 0}, {-1, 0}, {0, 7}, {0, -1}, {Integer.MAX_VALUE, 0}, {2, 6}}) {
            CHECK.due("wrong count", Check.count(x, c[0], c[1]), Check.THROWS);
        }
    }

    private static void wrongCounts() {
        RunningCount x = Check.of("shelves 2;item 0 0;");
        int[][] wrong = {{2, 0, 0, 0, 0}, {-1, 0, 0, 0, 0}, {0, 1, 0, 0, 0}, {0, -1, 0, 0, 0}, {0, 0, -1, 0, 0},
            {0, 0, 1000, 0, 0}, {0, 0, 0, -1, 0}, {0, 0, 0, 10000, 0}, {0, 0, 0, 0, 4}, {0, 0, 0, 0, -1}};
        for (int[] c : wrong) {
            CHECK.due("wrong counts", x.counts(c[0], c[1], c[2], c[3], c[4]), NONE);
        }
        CHECK.due("none came", x.now(3), 0);
        CHECK.due("nothing to undo", x.now(6), 0);
    }

    private static void refusedCounts() {
        RunningCount x = Check.of("shelves 2;item 0 0;item 0 0;stock 0 0 10;");
        CHECK.due("counts", x.counts(0, 0, 50, 10, 0), 0);
        CHECK.due("the same instant", x.counts(0, 0, 50, 10, 1), -2);
        CHECK.due("the same instant and who", x.counts(0, 0, 50, 10, 0), -2);
        CHECK.due("the same who behind", x.counts(0, 0, 51, 10, 0), -3);
        CHECK.due("the same who ahead", x.counts(0, 0, 49, 10, 0), 1);
        CHECK.due("another shelf", x.counts(1, 0, 50, 10, 0), 2);
        CHECK.due("another item", x.counts(0, 1, 50, 10, 0), 3);
        CHECK.due("another who", x.counts(0, 0, 60, 3, 1), 4);
        CHECK.due("the one between is of another", x.counts(0, 0, 70, 10, 0), 5);
        CHECK.due("between them, like the one ahead", x.counts(0, 0, 65, 10, 1), -3);
        CHECK.due("between them, like the one behind", x.counts(0, 0, 65, 10, 0), 6);
        CHECK.due("post", x.post(0, 0), 0);
        CHECK.due("count(1, 5)", Check.count(x, 1, 5), 1);
        CHECK.due("count(0, 5)", Check.count(x, 0, 5), 0);
        CHECK.due("of a posted one's instant", x.counts(0, 0, 49, 10, 3), -2);
        CHECK.due("ahead of a posted one", x.counts(0, 0, 48, 10, 3), -4);
        // the open one ahead is looked for among open ones alone
        RunningCount y = Check.of("shelves 1;item 0 0;stock 0 0 10;");
        y.counts(0, 0, 20, 10, 2);
        y.post(0, 0);
        CHECK.due("like a posted one ahead", y.counts(0, 0, 21, 9, 2), 1);
        CHECK.due("ahead of the posted one", y.counts(0, 0, 19, 10, 0), -4);
        CHECK.due("other shelves and items are free", x.counts(1, 0, 1, 10, 3), 7);
        CHECK.due("how many to undo", x.now(6), 9);
    }

    private static void fortyCounts() {
        RunningCount x = Check.of("shelves 1;item 0 0;item 0 0;stock 0 0 10;");
        for (int i = 0; i < 40; i++) {
            CHECK.due("counts " + i, x.counts(0, 0, 10 + 2 * i, 10, i % 2), i);
        }
        CHECK.due("the first is chosen", x.chosen(0, 0), 0);
        x.post(0, 0);
        CHECK.due("one more", x.counts(0, 1, 5, 10, 0), -5);
        CHECK.due("NONE stands first", x.counts(0, 2, 5, 10, 0), NONE);
        CHECK.due("-2 stands first", x.counts(0, 0, 12, 10, 0), -2);
        CHECK.due("-3 stands first", x.counts(0, 0, 13, 10, 1), -3);
        CHECK.due("-4 stands first", x.counts(0, 0, 5, 10, 1), -4);
        CHECK.due("drop", x.drop(39), true);
        CHECK.due("again", x.counts(0, 1, 5, 10, 0), 39);
        for (int i = 1; i < 40; i++) {
            x.post(0, 0);
        }
        CHECK.due("adjustments", x.now(5), 39);
        CHECK.due("and the last one", x.chosen(0, 1), -2);
    }

    private static void difference() {
        RunningCount x = Check.of("shelves 1;item 0 0;stock 0 0 50;move 0 10 from 0 10 20;move 0 5 to 0 10 20;");
        int[] sums = {39, 40, 45, 55, 56, 0, 9999};
        int[] want = {-1, 0, 0, 0, 1, -40, 9944};
        for (int i = 0; i < sums.length; i++) {
            x.counts(0, 0, 11 + i, sums[i], i % 4);
            CHECK.due("difference of " + sums[i], x.difference(i), want[i]);
        }
        x.narrow(0, 0, 10, 11);
        CHECK.due("as the book is now", x.difference(2), 0);
        CHECK.due("as the book is now", x.difference(3), 10);
        for (int count : new int[] {7, -1, Integer.MAX_VALUE}) {
            CHECK.due("difference(" + count + ")", x.difference(count), Check.NO_SUM);
            CHECK.due("share(" + count + ")", x.share(count), Check.NO_SUM);
        }
    }

    private static void allowed() {
        RunningCount x = Check.of("shelves 1;item 4 10;item 0 99;stock 0 0 39;stock 0 1 1;"
                + "move 0 10 to 0 100 200;move 0 1 to 0 100 200;move 0 99 from 0 300 300;");
        x.counts(0, 0, 1, 0, 0);
        x.counts(0, 0, 150, 0, 1);
        x.counts(0, 0, 200, 0, 2);
        x.counts(0, 0, 300, 0, 3);
        x.counts(0, 1, 1, 0, 0);
        int[] want = {4, 4, 5, 4, 0};
        for (int i = 0; i < want.length; i++) {
            CHECK.due("allowed of " + i, Check.count(x, i, 6), want[i]);
        }
    }

    private static void share() {
        RunningCount x = Check.of("shelves 1;item 0 0;stock 0 0 7;move 0 9 from 0 100 100;move 0 2 to 0 200 200;"
                + "move 0 30 to 0 300 310;");
        x.counts(0, 0, 1, 5, 0);
        x.counts(0, 0, 2, 14, 1);
        x.counts(0, 0, 3, 7, 2);
        x.counts(0, 0, 100, 1, 3);
        x.counts(0, 0, 200, 5, 0);
        x.counts(0, 0, 310, 5, 1);
        x.counts(0, 0, 305, 40, 2);
        int[] want = {-285, 1000, 0, -1500, 0, -833, 0};
        for (int i = 0; i < want.length; i++) {
            CHECK.due("share of " + i, x.share(i), want[i]);
        }
        // 1000f times the difference first: 1000f * (326f / 5f) would be cut to 65199
        RunningCount z = Check.of("shelves 1;item 0 0;stock 0 0 5;");
        z.counts(0, 0, 9, 331, 0);
        CHECK.due("share of 326 by 5", z.share(0), 65200);
    }

    private static RunningCount counted(String item, int... sums) {
        RunningCount x = Check.of("shelves 1;item " + item + ";stock 0 0 100;");
        for (int i = 0; i < sums.length; i++) {
            x.counts(0, 0, 10 * i, sums[i], i % 4);
        }
        return x;
    }

    private static void chosenFirst() {
        CHECK.due("none", counted("5 0").chosen(0, 0), NONE);
        CHECK.due("as the book", counted("5 0", 100).chosen(0, 0), 0);
        CHECK.due("5 more", counted("5 0", 105).chosen(0, 0), 0);
        CHECK.due("5 less", counted("5 0", 95).chosen(0, 0), 0);
        CHECK.due("6 more", counted("5 0", 106).chosen(0, 0), -2);
        CHECK.due("6 less", counted("5 0", 94).chosen(0, 0), -2);
        CHECK.due("by share", counted("5 6", 94).chosen(0, 0), 0);
        CHECK.due("the first of many", counted("5 0", 105, 300, 400, 500).chosen(0, 0), 0);
    }

    private static void chosenOfTwo() {
        CHECK.due("5 apart", counted("5 0", 110, 115).chosen(0, 0), 1);
        CHECK.due("6 apart", counted("5 0", 110, 116).chosen(0, 0), -2);
        CHECK.due("5 apart down", counted("5 0", 110, 105).chosen(0, 0), 1);
        CHECK.due("6 apart down", counted("5 0", 111, 105).chosen(0, 0), -2);
        CHECK.due("the second as the book", counted("5 0", 200, 100).chosen(0, 0), -2);
        // ALLOWED is that of the second: 10 of 100 at first, 20 of 200 then
        RunningCount x = Check.of("shelves 1;item 0 10;stock 0 0 100;move 0 99 to 0 5 5;move 0 1 to 0 5 5;");
        x.counts(0, 0, 0, 111, 0);
        x.counts(0, 0, 10, 231, 1);
        CHECK.due("20 apart", x.chosen(0, 0), 1);
        x.undo();
        x.counts(0, 0, 10, 232, 1);
        CHECK.due("21 apart", x.chosen(0, 0), -2);
    }

    private static void chosenOfThree() {
        int[][] sums = {{110, 120, 130}, {110, 130, 120}, {120, 110, 130}, {120, 130, 110}, {130, 110, 120},
            {130, 120, 110}, {120, 120, 130}, {130, 120, 120}, {120, 130, 120}, {120, 110, 120}, {110, 120, 120},
            {120, 120, 110}, {120, 120, 120}};
        int[] want = {1, 2, 0, 0, 2, 1, 0, 1, 0, 0, 1, 0, 0};
        for (int i = 0; i < sums.length; i++) {
            CHECK.due("three " + i, counted("5 0", sums[i]).chosen(0, 0), want[i]);
        }
        CHECK.due("of the last three", counted("5 0", 120, 130, 110, 115).chosen(0, 0), 3);
        CHECK.due("of the last three of five", counted("5 0", 120, 110, 150, 50, 70).chosen(0, 0), 4);
    }

    private static void chosenByInstants() {
        RunningCount x = Check.of("shelves 1;item 5 0;stock 0 0 100;");
        x.counts(0, 0, 500, 150, 0);
        x.counts(0, 0, 300, 140, 1);
        CHECK.due("10 apart", x.chosen(0, 0), -2);
        x.counts(0, 0, 400, 145, 2);
        CHECK.due("three", x.chosen(0, 0), 2);
        x.counts(0, 0, 200, 149, 2);
        CHECK.due("the last three", x.chosen(0, 0), 2);
        x.counts(0, 0, 100, 101, 3);
        CHECK.due("the first", x.chosen(0, 0), 4);
        CHECK.due("post", x.post(0, 0), 1);
        CHECK.due("behind it", x.chosen(0, 0), 2);
        CHECK.due("post the middle", x.post(0, 0), 44);
        CHECK.due("left open", x.now(4), 1);
        CHECK.due("the one left", x.chosen(0, 0), 0);
    }

    private static void chosenWrong() {
        RunningCount x = counted("5 0", 100);
        for (int[] c : new int[][] {{1, 0}, {-1, 0}, {0, 1}, {0, -1}}) {
            CHECK.due("wrong chosen", x.chosen(c[0], c[1]), NONE);
            CHECK.due("wrong post", x.post(c[0], c[1]), Check.NO_SUM);
        }
    }

    private static void due() {
        RunningCount x = Check.of("shelves 3;item 0 0;item 0 0;");
        x.counts(0, 0, 1, 0, 0);
        CHECK.due("one is chosen", x.due(), 0);
        x.counts(2, 1, 1, 5, 0);
        CHECK.due("one due", x.due(), 1);
        x.counts(2, 0, 1, 5, 0);
        x.counts(0, 1, 1, 5, 0);
        CHECK.due("three due", x.due(), 3);
        x.counts(2, 1, 2, 5, 1);
        CHECK.due("two due", x.due(), 2);
        x.post(2, 1);
        CHECK.due("two are left", x.due(), 2);
    }

    private static void explained() {
        RunningCount x = Check.of("shelves 2;item 0 0;stock 0 0 50;move 0 10 from 0 10 20;move 0 5 to 0 10 20;"
                + "move 0 5 from 1 10 20 to 0 15 30;move 0 7 to 0 12 12;");
        int[] sums = {57, 47, 52, 67, 62, 56, 42};
        int[][] want = {{0, 7}, {1}, {3, 5}, {6}, {2, 4}, {}, {}};
        int[] instants = {15, 16, 17, 18, 19, 13, 14};
        for (int i = 0; i < sums.length; i++) {
            x.counts(0, 0, instants[i], sums[i], i % 4);
            CHECK.due("how many of " + sums[i], x.explained(i, NONE), want[i].length);
            for (int k = 0; k < want[i].length; k++) {
                CHECK.due("explained(" + i + ", " + k + ")", x.explained(i, k), want[i][k]);
            }
            CHECK.due("one more", x.explained(i, want[i].length), NONE);
            CHECK.due("k below", x.explained(i, -2), NONE);
            CHECK.due("k far", x.explained(i, Integer.MAX_VALUE), NONE);
        }
        CHECK.due("no such count", x.explained(7, NONE), NONE);
        CHECK.due("no such count", x.explained(-1, 0), NONE);
        x.counts(0, 0, 5, 50, 3);
        CHECK.due("without doubt", x.explained(7, NONE), 1);
        CHECK.due("the empty set", x.explained(7, 0), 0);
    }

    private static void explainedOrder() {
        // of one move LEG 0 ahead: bits 0 and 1 are its legs, bit 2 is of the next move
        RunningCount x = Check.of("shelves 1;item 0 0;stock 0 0 50;move 0 10 from 0 1 9 to 0 1 9;move 0 1 to 0 1 9;");
        int[] sums = {40, 60, 51, 41, 61};
        int[] want = {1, 2, 4, 5, 6};
        for (int i = 0; i < sums.length; i++) {
            x.counts(0, 0, 1 + i, sums[i], i % 4);
            CHECK.due("explained(" + i + ", 0)", x.explained(i, 0), want[i]);
            CHECK.due("explained(" + i + ", NONE)", x.explained(i, NONE), sums[i] == 51 ? 2 : 1);
        }
        CHECK.due("explained(2, 1)", x.explained(2, 1), 7);
    }

    private static void explainedOfTenAndEleven() {
        RunningCount x = Check.of("shelves 1;item 0 0;" + Check.repeat("move 0 1 to 0 1 9;", 11));
        x.counts(0, 0, 5, 10, 0);
        CHECK.due("eleven", x.explained(0, NONE), -2);
        CHECK.due("eleven", x.explained(0, 0), -2);
        CHECK.due("no such count", x.explained(1, 0), NONE);
        CHECK.due("difference", x.difference(0), 0);
        x.narrow(10, 1, 9, 9);
        CHECK.due("ten", x.explained(0, NONE), 1);
        CHECK.due("all ten", x.explained(0, 0), 1023);
        CHECK.due("no more", x.explained(0, 1), NONE);
    }

    private static void adjusted() {
        RunningCount x = Check.of("shelves 3;item 9 0;item 9 0;");
        x.counts(2, 1, 77, 5, 0);
        x.counts(1, 0, 33, 0, 0);
        CHECK.due("post", x.post(2, 1), 5);
        CHECK.due("post", x.post(1, 0), 0);
        int[][] want = {{2, 1, 77, 5}, {1, 0, 33, 0}};
        for (int k = 0; k < 2; k++) {
            for (int what = 0; what < 4; what++) {
                CHECK.due("adjusted(" + k + ", " + what + ")", x.adjusted(k, what), want[k][what]);
            }
        }
        for (int[] c : new int[][] {{2, 0}, {-1, 0}, {0, 4}, {0, -1}, {Integer.MIN_VALUE, 0}}) {
            CHECK.due("wrong adjusted", x.adjusted(c[0], c[1]), Check.NO_SUM);
        }
    }

    private static void post() {
        RunningCount x = Check.of("shelves 2;item 2 0;item 2 0;stock 0 0 50;");
        CHECK.due("without counts", x.post(0, 0), Check.NO_SUM);
        x.counts(0, 0, 10, 60, 0);
        CHECK.due("a recount is due", x.post(0, 0), Check.NO_SUM);
        x.counts(1, 0, 5, 0, 0);
        x.counts(0, 1, 5, 0, 0);
        x.counts(0, 0, 30, 58, 1);
        x.counts(0, 0, 20, 59, 2);
        CHECK.due("the middle one", x.chosen(0, 0), 4);
        CHECK.due("post", x.post(0, 0), 9);
        int[] want = {1, 0, 0, 0, 1};
        for (int i = 0; i < want.length; i++) {
            CHECK.due("count(" + i + ", 5)", Check.count(x, i, 5), want[i]);
        }
        CHECK.due("difference of the chosen one", x.difference(4), 0);
        CHECK.due("difference of the one ahead", x.difference(0), 10);
        CHECK.due("difference of the one behind", x.difference(3), -1);
        CHECK.due("post that", x.post(0, 0), -1);
        CHECK.due("none is open there", x.post(0, 0), Check.NO_SUM);
        CHECK.due("book", x.book(0, 0, 30, 0), 58);
        CHECK.due("how many to undo", x.now(6), 7);
    }

    private static void drop() {
        RunningCount x = Check.of("shelves 1;item 0 0;stock 0 0 50;");
        x.counts(0, 0, 10, 50, 0);
        x.counts(0, 0, 20, 7, 1);
        x.counts(0, 0, 30, 8, 2);
        x.post(0, 0);
        CHECK.due("a posted one", x.drop(0), false);
        CHECK.due("no such one", x.drop(3), false);
        CHECK.due("no such one", x.drop(-1), false);
        CHECK.due("no such one", x.drop(Integer.MAX_VALUE), false);
        CHECK.due("an open one", x.drop(1), true);
        CHECK.due("how many", x.now(3), 2);
        int[] want = {0, 0, 30, 8, 2, 0};
        for (int what = 0; what < want.length; what++) {
            CHECK.due("count(1, " + what + ")", Check.count(x, 1, what), want[what]);
        }
        CHECK.due("count(0, 5)", Check.count(x, 0, 5), 1);
        CHECK.due("its instant is free", x.counts(0, 0, 20, 9, 2), 2);
        CHECK.due("the last one", x.drop(2), true);
        CHECK.due("the next number", x.counts(0, 0, 25, 9, 3), 2);
    }
}
