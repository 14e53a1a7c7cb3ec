/** What "Terms" says of CHOSEN, POSTED and EXPLAINED, and promises 15 to 18, 23 and 24, at their boundaries. */
public final class EdgesOfChoiceTest {
    private static final int NONE = RunningCount.NONE;
    private static final int RECOUNT = -2;
    private static final Check CHECK = new Check("EdgesOfChoiceTest");

    private EdgesOfChoiceTest() {
    }

    public static void main(String[] args) {
        openByInstants();
        chosenWithoutAny();
        chosenTheFirst();
        chosenOfOneAlone();
        chosenOfTwo();
        chosenOfTwoByTheSecondsAllowed();
        chosenOfThree();
        chosenOfLikeOnes();
        chosenOfMoreThanThree();
        chosenNoneAndRecount();
        due();
        postedAdjustment();
        postedAtItOrAhead();
        postOfNought();
        postNoneChosen();
        explainedSets();
        explainedOrder();
        explainedTen();
        explainedK();
        explainedNone();
        adjustedAsTheyCame();
        adjustedNone();
        dropAnOpenOne();
        dropNumbersOneLess();
        dropFalse();
        CHECK.end();
    }

    /** Counts of one shelf and item whose stock is 100, at 10, 20, and so on. */
    private static RunningCount counted(String item, int... sums) {
        RunningCount x = Check.of("shelves 1;item " + item + ";stock 0 0 100;");
        for (int i = 0; i < sums.length; i++) {
            CHECK.due("counts", x.counts(0, 0, 10 + 10 * i, sums[i], i % 4), i);
        }
        return x;
    }

    private static void chosen(String item, int want, int... sums) {
        StringBuilder told = new StringBuilder("chosen of");
        for (int sum : sums) {
            told.append(' ').append(sum);
        }
        CHECK.due(told.toString(), counted(item, sums).chosen(0, 0), want);
    }

    private static void openByInstants() {
        CHECK.says("OPEN COUNTS of a SHELF and an ITEM: those that are not POSTED, by instants");
        RunningCount x = Check.of("shelves 1;item 0 0;stock 0 0 100;");
        x.counts(0, 0, 30, 110, 0);
        x.counts(0, 0, 20, 100, 0);
        CHECK.due("the first by its instant", x.chosen(0, 0), 1);
        x.counts(0, 0, 10, 105, 0);
        CHECK.due("of three by instants 105, 100, 110", x.chosen(0, 0), 2);
        x.counts(0, 0, 5, 100, 0);
        CHECK.due("the first of four", x.chosen(0, 0), 3);
        x.post(0, 0);
        CHECK.due("without the posted one", x.chosen(0, 0), 2);
        x.drop(2);
        CHECK.due("without the dropped one", x.chosen(0, 0), 1);
        // those at the first and the last instants, too
        RunningCount y = Check.of("shelves 1;item 5 0;stock 0 0 100;");
        y.counts(0, 0, 0, 120, 0);
        y.counts(0, 0, 999, 124, 1);
        CHECK.due("of two", y.chosen(0, 0), 1);
        y.counts(0, 0, 1, 130, 2);
        CHECK.due("of three", y.chosen(0, 0), 1);
        y.counts(0, 0, 998, 125, 3);
        CHECK.due("of the last three", y.chosen(0, 0), 3);
        RunningCount z = Check.of("shelves 1;item 5 0;stock 0 0 100;");
        z.counts(0, 0, 999, 106, 0);
        CHECK.due("of one", z.chosen(0, 0), RECOUNT);
    }

    private static void chosenWithoutAny() {
        CHECK.says("CHOSEN: without any none");
        RunningCount x = Check.of("shelves 2;item 0 0;item 0 0;");
        CHECK.due("none", x.chosen(0, 0), NONE);
        x.counts(0, 0, 5, 0, 0);
        CHECK.due("another shelf", x.chosen(1, 0), NONE);
        CHECK.due("another item", x.chosen(0, 1), NONE);
        CHECK.due("one", x.chosen(0, 0), 0);
        x.post(0, 0);
        CHECK.due("posted", x.chosen(0, 0), NONE);
    }

    private static void chosenTheFirst() {
        CHECK.says("if the first one's DIFFERENCE is no more than ALLOWED either way: the first");
        chosen("5 0", 0, 100);
        chosen("5 0", 0, 105);
        chosen("5 0", 0, 95);
        chosen("5 0", RECOUNT, 106);
        chosen("5 0", RECOUNT, 94);
        chosen("0 0", 0, 100);
        chosen("0 0", RECOUNT, 101);
        chosen("0 0", RECOUNT, 99);
        chosen("0 7", 0, 107);
        chosen("0 7", RECOUNT, 108);
        chosen("5 0", 0, 105, 500);
        chosen("5 0", 0, 95, 500, 600);
        chosen("5 0", 0, 105, 500, 600, 700);
        // the second is within ALLOWED: that makes nothing of it
        chosen("5 0", RECOUNT, 150, 100);
    }

    private static void chosenOfOneAlone() {
        CHECK.says("else, with one alone: none (a RECOUNT is due)");
        chosen("5 0", RECOUNT, 106);
        chosen("5 0", RECOUNT, 9999);
        chosen("5 0", RECOUNT, 0);
    }

    private static void chosenOfTwo() {
        CHECK.says("with two: the second, if their DIFFERENCES are no further apart than ALLOWED, else none");
        chosen("5 0", 1, 110, 110);
        chosen("5 0", 1, 110, 115);
        chosen("5 0", RECOUNT, 110, 116);
        chosen("5 0", 1, 110, 105);
        chosen("5 0", RECOUNT, 110, 104);
        chosen("5 0", 1, 90, 85);
        chosen("5 0", RECOUNT, 90, 84);
        chosen("5 0", 1, 90, 95);
        chosen("5 0", RECOUNT, 90, 96);
        chosen("0 0", 1, 110, 110);
        chosen("0 0", RECOUNT, 110, 111);
        chosen("5 0", RECOUNT, 94, 106);
        // by their DIFFERENCES, not by their SUMS
        RunningCount x = Check.of("shelves 1;item 0 0;stock 0 0 100;move 0 50 to 0 15 15;");
        x.counts(0, 0, 10, 103, 0);
        x.counts(0, 0, 20, 153, 1);
        CHECK.due("like differences", x.chosen(0, 0), 1);
        x.undo();
        x.counts(0, 0, 20, 103, 1);
        CHECK.due("like sums", x.chosen(0, 0), RECOUNT);
    }

    private static void chosenOfTwoByTheSecondsAllowed() {
        CHECK.says("ALLOWED for the second");
        // 10 for the first, 5 for the second
        RunningCount x = Check.of("shelves 1;item 0 10;stock 0 0 100;move 0 50 from 0 15 15;");
        x.counts(0, 0, 10, 111, 0);
        x.counts(0, 0, 20, 66, 1);
        CHECK.due("5 apart", x.chosen(0, 0), 1);
        x.undo();
        x.counts(0, 0, 20, 67, 1);
        CHECK.due("6 apart", x.chosen(0, 0), RECOUNT);
        // 10 for the first, 15 for the second
        RunningCount y = Check.of("shelves 1;item 0 10;stock 0 0 100;move 0 50 to 0 15 15;");
        y.counts(0, 0, 10, 111, 0);
        y.counts(0, 0, 20, 176, 1);
        CHECK.due("15 apart", y.chosen(0, 0), 1);
        y.undo();
        y.counts(0, 0, 20, 177, 1);
        CHECK.due("16 apart", y.chosen(0, 0), RECOUNT);
    }

    private static void chosenOfThree() {
        CHECK.says("with three or more: of the last three the one of the middle DIFFERENCE");
        chosen("5 0", 1, 110, 120, 130);
        chosen("5 0", 2, 110, 130, 120);
        chosen("5 0", 0, 120, 110, 130);
        chosen("5 0", 0, 120, 130, 110);
        chosen("5 0", 2, 130, 110, 120);
        chosen("5 0", 1, 130, 120, 110);
        chosen("5 0", 2, 50, 150, 100);
        chosen("5 0", 1, 0, 9, 9999);
        // by their DIFFERENCES, not by their SUMS: 10, 30 less, 20
        RunningCount x = Check.of("shelves 1;item 5 0;stock 0 0 100;move 0 50 to 0 15 15;move 0 70 from 0 25 25;");
        x.counts(0, 0, 10, 110, 0);
        x.counts(0, 0, 20, 120, 1);
        x.counts(0, 0, 30, 100, 2);
        CHECK.due("of 10, -30, 20", x.chosen(0, 0), 0);
    }

    private static void chosenOfLikeOnes() {
        CHECK.says("(of like ones the earlier one)");
        chosen("5 0", 0, 120, 120, 130);
        chosen("5 0", 0, 120, 120, 110);
        chosen("5 0", 0, 120, 130, 120);
        chosen("5 0", 0, 120, 110, 120);
        chosen("5 0", 1, 130, 120, 120);
        chosen("5 0", 1, 110, 120, 120);
        chosen("5 0", 0, 120, 120, 120);
        // the earlier by its instant, not by its number
        RunningCount x = Check.of("shelves 1;item 5 0;stock 0 0 100;");
        x.counts(0, 0, 30, 120, 0);
        x.counts(0, 0, 20, 120, 1);
        x.counts(0, 0, 10, 130, 2);
        CHECK.due("at 20", x.chosen(0, 0), 1);
    }

    private static void chosenOfMoreThanThree() {
        CHECK.says("with three or more: of the last three");
        chosen("5 0", 3, 120, 130, 110, 115);
        chosen("5 0", 1, 200, 120, 110, 130);
        chosen("5 0", 4, 120, 110, 150, 50, 70);
        // the first of the last three is within ALLOWED: that makes nothing of it
        chosen("5 0", 2, 200, 100, 120, 130);
        int[] sums = new int[40];
        for (int i = 0; i < 40; i++) {
            sums[i] = 300 + i;
        }
        chosen("5 0", 38, sums);
    }

    private static void chosenNoneAndRecount() {
        CHECK.says("-2: none, a RECOUNT is due; NONE: none without OPEN ones, no such ones.");
        RunningCount x = counted("5 0", 150);
        CHECK.due("one", x.chosen(0, 0), RECOUNT);
        x.counts(0, 0, 20, 200, 1);
        CHECK.due("two", x.chosen(0, 0), RECOUNT);
        for (int wrong : new int[] {-1, 1, 5, 6, Integer.MIN_VALUE, Integer.MAX_VALUE}) {
            CHECK.due("no such shelf", x.chosen(wrong, 0), NONE);
            CHECK.due("no such item", x.chosen(0, wrong), NONE);
        }
        x.drop(0);
        x.drop(0);
        CHECK.due("without open ones", x.chosen(0, 0), NONE);
        CHECK.due("of a new object", new RunningCount().chosen(0, 0), NONE);
    }

    private static void due() {
        CHECK.says("How many couples of SHELF and ITEM have OPEN COUNTS, and none is CHOSEN.");
        RunningCount x = Check.of("shelves 6;" + Check.repeat("item 0 0;", 5));
        CHECK.due("without counts", x.due(), 0);
        for (int i = 0; i < 30; i++) {
            x.counts(i % 6, i / 6, 5, 7, 0);
            CHECK.due("couples", x.due(), i + 1);
        }
        x.counts(5, 4, 6, 7, 1);
        CHECK.due("one is chosen of two", x.due(), 29);
        x.counts(0, 0, 6, 8, 1);
        CHECK.due("none is chosen of two", x.due(), 29);
        x.counts(0, 0, 7, 9, 2);
        CHECK.due("one of three", x.due(), 28);
        x.post(5, 4);
        CHECK.due("posted", x.due(), 28);
        x.drop(1);
        CHECK.due("dropped", x.due(), 27);
        CHECK.due("of a new object", new RunningCount().due(), 0);
    }

    private static void adjustment(RunningCount x, int k, int... want) {
        for (int what = 0; what < 4; what++) {
            CHECK.due("adjusted(" + k + ", " + what + ")", x.adjusted(k, what), want[what]);
        }
    }

    private static void postedAdjustment() {
        CHECK.says("POSTED: an ADJUSTMENT of the CHOSEN COUNT's DIFFERENCE at its instant comes: how much it is");
        RunningCount x = counted("5 0", 104);
        CHECK.due("post", x.post(0, 0), 4);
        adjustment(x, 0, 0, 0, 10, 4);
        CHECK.due("ahead", x.book(0, 0, 9, 0), 100);
        CHECK.due("at it", x.book(0, 0, 10, 0), 104);
        RunningCount y = counted("5 0", 80, 50, 60);
        CHECK.due("post the middle", y.post(0, 0), -40);
        adjustment(y, 0, 0, 0, 30, -40);
        // the DIFFERENCE from MOST or LEAST, not from SURE
        RunningCount z = Check.of("shelves 1;item 9 0;stock 0 0 100;move 0 10 from 0 5 50;move 0 20 to 0 5 50;");
        z.counts(0, 0, 20, 85, 0);
        CHECK.due("post below LEAST", z.post(0, 0), -5);
        CHECK.due("LEAST", z.book(0, 0, 20, 1), 85);
        z.counts(0, 0, 30, 116, 0);
        CHECK.due("post above MOST", z.post(0, 0), 1);
        CHECK.due("MOST", z.book(0, 0, 30, 2), 116);
    }

    private static void posted(RunningCount x, int... want) {
        for (int count = 0; count < want.length; count++) {
            CHECK.due("count(" + count + ", 5)", Check.count(x, count, 5), want[count]);
        }
    }

    private static void postedAtItOrAhead() {
        CHECK.says("it and all OPEN COUNTS of that SHELF and ITEM at it or ahead of it are POSTED");
        RunningCount x = counted("5 0", 150, 110, 130, 120);
        CHECK.due("the last is chosen", x.chosen(0, 0), 3);
        x.post(0, 0);
        posted(x, 1, 1, 1, 1);
        RunningCount y = counted("5 0", 150, 120, 110, 130);
        CHECK.due("the second is chosen", y.chosen(0, 0), 1);
        y.post(0, 0);
        posted(y, 1, 1, 0, 0);
        RunningCount z = counted("5 0", 100, 120, 110, 130);
        z.post(0, 0);
        posted(z, 1, 0, 0, 0);
        CHECK.due("open", z.now(4), 3);
        RunningCount w = Check.of("shelves 2;item 0 0;item 0 0;");
        w.counts(1, 0, 5, 0, 0);
        w.counts(0, 1, 5, 0, 0);
        w.counts(0, 0, 6, 0, 0);
        w.post(0, 0);
        posted(w, 0, 0, 1);
    }

    private static void postOfNought() {
        CHECK.says("(one of 0 comes, too)");
        RunningCount x = counted("5 0", 100);
        CHECK.due("post", x.post(0, 0), 0);
        CHECK.due("now(5)", x.now(5), 1);
        CHECK.due("now(6)", x.now(6), 2);
        adjustment(x, 0, 0, 0, 10, 0);
    }

    private static void postNoneChosen() {
        CHECK.says("post: NONE - 99999999: none is CHOSEN.");
        RunningCount x = Check.of("shelves 2;item 0 0;item 0 0;");
        CHECK.due("without counts", x.post(0, 0), Check.NO_SUM);
        x.counts(0, 0, 5, 1, 0);
        CHECK.due("one, a recount is due", x.post(0, 0), Check.NO_SUM);
        x.counts(0, 0, 6, 2, 1);
        CHECK.due("two, a recount is due", x.post(0, 0), Check.NO_SUM);
        for (int wrong : new int[] {-1, 2, 5, 6, Integer.MIN_VALUE, Integer.MAX_VALUE}) {
            CHECK.due("no such shelf", x.post(wrong, 0), Check.NO_SUM);
            CHECK.due("no such item", x.post(0, wrong), Check.NO_SUM);
        }
        CHECK.due("no adjustment", x.now(5), 0);
        x.counts(0, 0, 7, 2, 2);
        CHECK.due("the middle", x.post(0, 0), 2);
        x.drop(2);
        CHECK.due("all are posted", x.post(0, 0), Check.NO_SUM);
        CHECK.due("of a new object", new RunningCount().post(0, 0), Check.NO_SUM);
    }

    private static void explained(RunningCount x, int count, int... want) {
        CHECK.due("explained(" + count + ", NONE)", x.explained(count, NONE), want.length);
        for (int k = 0; k < want.length; k++) {
            CHECK.due("explained(" + count + ", " + k + ")", x.explained(count, k), want[k]);
        }
        CHECK.due("explained(" + count + ", " + want.length + ")", x.explained(count, want.length), NONE);
    }

    private static void explainedSets() {
        CHECK.says("EXPLAINED: sets of the DOUBTFUL LEGS that, being over, all others not, make SURE its SUM");
        RunningCount x = Check.of("shelves 2;item 0 0;item 0 0;stock 0 0 50;move 0 10 from 0 100 200;"
                + "move 0 5 to 0 100 200;move 0 5 to 0 150 200;move 1 9 to 0 100 200;move 0 9 to 1 100 200;"
                + "move 0 7 to 0 0 0;move 0 20 from 0 300 300;");
        int[] instants = {99, 100, 149, 150, 151, 152, 199, 200};
        int[] sums = {57, 57, 52, 57, 52, 47, 67, 57};
        int[][] want = {{0}, {0}, {3}, {0, 7}, {3, 5}, {1}, {6}, {0}};
        for (int i = 0; i < instants.length; i++) {
            x.counts(0, 0, instants[i], sums[i], i % 4);
            explained(x, i, want[i]);
        }
        x.counts(0, 0, 201, 58, 0);
        explained(x, 8);
        // a posted one, too: the adjustment is in SURE
        RunningCount y = Check.of("shelves 1;item 9 0;stock 0 0 50;move 0 10 to 0 5 50;");
        y.counts(0, 0, 20, 63, 0);
        explained(y, 0);
        y.post(0, 0);
        explained(y, 0, 1);
    }

    private static void explainedOrder() {
        CHECK.says("by MOVES, of one MOVE LEG 0 ahead; as bits, the first the lowest");
        RunningCount x = Check.of("shelves 1;item 0 0;stock 0 0 500;move 0 1 to 0 5 50;move 0 2 from 0 5 50 to 0 5 50;"
                + "move 0 16 from 0 5 50;move 0 40 to 0 5 50;");
        int[] sums = {501, 498, 502, 484, 540, 499, 541};
        int[][] want = {{1, 7}, {2}, {4}, {8, 14}, {16, 22}, {3}, {17, 23}};
        for (int i = 0; i < sums.length; i++) {
            x.counts(0, 0, 10 + i, sums[i], i % 4);
            explained(x, i, want[i]);
        }
        // the order is that of moves, not of instants or of when legs came
        RunningCount y = Check.of("shelves 1;item 0 0;move 0 1;move 0 2;");
        y.leg(1, 1, 0, 1, 99);
        y.leg(0, 1, 0, 2, 99);
        y.counts(0, 0, 50, 1, 0);
        explained(y, 0, 1);
        y.counts(0, 0, 51, 2, 1);
        explained(y, 1, 2);
    }

    private static void explainedTen() {
        CHECK.says("(at most 10) -2: more than 10 LEGS are DOUBTFUL.");
        RunningCount x = Check.of("shelves 1;item 0 0;" + Check.repeat("move 0 1 to 0 1 9;", 10) + "move 0 1;");
        x.counts(0, 0, 5, 9, 0);
        CHECK.due("ten", x.explained(0, NONE), 10);
        CHECK.due("the first", x.explained(0, 0), 511);
        CHECK.due("the last", x.explained(0, 9), 1022);
        CHECK.due("no more", x.explained(0, 10), NONE);
        x.leg(10, 1, 0, 5, 9);
        for (int k : new int[] {NONE, 0, 1, 9, 10}) {
            CHECK.due("eleven, k " + k, x.explained(0, k), -2);
        }
        x.narrow(10, 1, 6, 9);
        CHECK.due("ten doubtful, one to come", x.explained(0, NONE), 10);
        x.undo();
        x.narrow(10, 1, 5, 5);
        CHECK.due("ten doubtful, one over", x.explained(0, NONE), 45);
        // twenty legs of ten moves
        RunningCount y = Check.of("shelves 1;item 0 0;" + Check.repeat("move 0 1 from 0 1 9 to 0 1 9;", 10));
        y.counts(0, 0, 5, 0, 0);
        CHECK.due("twenty", y.explained(0, NONE), -2);
        y.counts(0, 0, 9, 0, 1);
        explained(y, 1, 0);
    }

    private static void explainedK() {
        CHECK.says("how many sets there are (k NONE), or the k-th (from 0)");
        RunningCount x = Check.of("shelves 1;item 0 0;" + Check.repeat("move 0 5 to 0 1 9;", 3));
        x.counts(0, 0, 5, 5, 0);
        explained(x, 0, 1, 2, 4);
        x.counts(0, 0, 6, 10, 1);
        explained(x, 1, 3, 5, 6);
        x.counts(0, 0, 7, 15, 2);
        explained(x, 2, 7);
        x.counts(0, 0, 8, 0, 3);
        explained(x, 3, 0);
    }

    private static void explainedNone() {
        CHECK.says("explained: NONE: no such COUNT, none such");
        RunningCount x = Check.of("shelves 1;item 0 0;" + Check.repeat("move 0 5 to 0 1 9;", 11));
        x.counts(0, 0, 0, 0, 0);
        for (int count : new int[] {-1, 1, 39, 40, Integer.MIN_VALUE, Integer.MAX_VALUE}) {
            CHECK.due("explained(" + count + ", NONE)", x.explained(count, NONE), NONE);
            CHECK.due("explained(" + count + ", 0)", x.explained(count, 0), NONE);
        }
        for (int k : new int[] {1, 2, -2, Integer.MIN_VALUE, Integer.MAX_VALUE}) {
            CHECK.due("explained(0, " + k + ")", x.explained(0, k), NONE);
        }
        CHECK.due("explained(0, 0)", x.explained(0, 0), 0);
        CHECK.due("of a new object", new RunningCount().explained(0, NONE), NONE);
    }

    private static void adjustedAsTheyCame() {
        CHECK.says("ADJUSTMENT k (from 0, as they came) 0 its SHELF, 1 ITEM, 2 instant, 3 how much.");
        RunningCount x = Check.of("shelves 6;item 9 0;item 9 0;item 9 0;stock 5 0 9;");
        x.counts(4, 1, 900, 9, 0);
        x.counts(5, 2, 800, 8, 0);
        x.counts(5, 0, 700, 0, 0);
        x.post(5, 0);
        x.post(4, 1);
        x.post(5, 2);
        adjustment(x, 0, 5, 0, 700, -9);
        adjustment(x, 1, 4, 1, 900, 9);
        adjustment(x, 2, 5, 2, 800, 8);
        x.undo();
        CHECK.due("undone", x.adjusted(2, 0), Check.NO_SUM);
        adjustment(x, 1, 4, 1, 900, 9);
    }

    private static void adjustedNone() {
        CHECK.says("adjusted: NONE - 99999999: none such, another what.");
        RunningCount x = counted("5 0", 103);
        CHECK.due("none yet", x.adjusted(0, 0), Check.NO_SUM);
        x.post(0, 0);
        for (int k : new int[] {-1, 1, 2, 39, 40, Integer.MIN_VALUE, Integer.MAX_VALUE}) {
            for (int what = 0; what < 4; what++) {
                CHECK.due("adjusted(" + k + ", " + what + ")", x.adjusted(k, what), Check.NO_SUM);
            }
        }
        for (int what : new int[] {-1, 4, 5, Integer.MIN_VALUE, Integer.MAX_VALUE}) {
            CHECK.due("adjusted(0, " + what + ")", x.adjusted(0, what), Check.NO_SUM);
        }
        CHECK.due("of a new object", new RunningCount().adjusted(0, 0), Check.NO_SUM);
    }

    private static void dropAnOpenOne() {
        CHECK.says("An OPEN COUNT is taken back (it has never been): true.");
        RunningCount x = counted("5 0", 150, 151);
        CHECK.due("the second is chosen", x.chosen(0, 0), 1);
        CHECK.due("drop(0)", x.drop(0), true);
        CHECK.due("a recount is due", x.chosen(0, 0), RECOUNT);
        CHECK.due("its instant is free", x.counts(0, 0, 10, 100, 0), 1);
        CHECK.due("now(3)", x.now(3), 2);
        CHECK.due("drop(1)", x.drop(1), true);
        CHECK.due("drop(0)", x.drop(0), true);
        CHECK.due("now(3)", x.now(3), 0);
        CHECK.due("now(4)", x.now(4), 0);
        CHECK.due("its WHO is free", x.counts(0, 0, 30, 100, 1), 0);
    }

    private static void dropNumbersOneLess() {
        CHECK.says("later ones have numbers one less");
        for (int dropped = 0; dropped < 4; dropped++) {
            RunningCount x = Check.of("shelves 6;item 0 0;");
            for (int i = 0; i < 4; i++) {
                x.counts(i, 0, 40 - i, 5 * i, 3 - i);
            }
            x.post(0, 0);
            if (dropped == 0) {
                x.undo();
            }
            CHECK.due("drop(" + dropped + ")", x.drop(dropped), true);
            for (int count = 0; count < 3; count++) {
                int was = count < dropped ? count : count + 1;
                int[] want = {was, 0, 40 - was, 5 * was, 3 - was, was == 0 ? 1 : 0};
                for (int what = 0; what < want.length; what++) {
                    CHECK.due("count(" + count + ", " + what + ")", Check.count(x, count, what), want[what]);
                }
            }
            CHECK.due("count(3, 0)", Check.count(x, 3, 0), Check.THROWS);
            CHECK.due("the next number", x.counts(5, 0, 1, 1, 1), 3);
        }
        // a posted one moves up as a posted one
        RunningCount y = Check.of("shelves 2;item 0 0;");
        y.counts(0, 0, 5, 7, 0);
        y.counts(1, 0, 5, 0, 0);
        y.post(1, 0);
        y.drop(0);
        posted(y, 1);
        CHECK.due("drop(0)", y.drop(0), false);
    }

    private static void dropFalse() {
        CHECK.says("drop: False: no such one, not so.");
        RunningCount x = counted("5 0", 100, 150);
        x.post(0, 0);
        CHECK.due("a posted one", x.drop(0), false);
        for (int count : new int[] {-1, 2, 39, 40, Integer.MIN_VALUE, Integer.MAX_VALUE}) {
            CHECK.due("drop(" + count + ")", x.drop(count), false);
        }
        CHECK.due("now(3)", x.now(3), 2);
        CHECK.due("of a new object", new RunningCount().drop(0), false);
    }
}
