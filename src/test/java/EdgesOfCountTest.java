/** What "Terms" says of a COUNT, its DIFFERENCE and ALLOWED, and promises 12 to 14 and 22, at their boundaries. */
public final class EdgesOfCountTest {
    private static final int NONE = RunningCount.NONE;
    private static final Check CHECK = new Check("EdgesOfCountTest");

    private EdgesOfCountTest() {
    }

    public static void main(String[] args) {
        countOfEdges();
        differenceAboveMost();
        differenceBelowLeast();
        differenceElseNought();
        differenceAsTheBookIsNow();
        allowedUnitsOrShare();
        allowedOfSureBelowNought();
        allowedCut();
        countAnswers();
        countThrows();
        differenceOfNoSuchOne();
        share();
        shareOfSureNought();
        shareOfNoSuchOne();
        countsNumber();
        countsNone();
        countsOfOneInstant();
        countsOfTheSameWho();
        countsAheadOfAPostedOne();
        countsForty();
        countsTheFirstThatIsSo();
        CHECK.end();
    }

    private static void countOfEdges() {
        CHECK.says("A COUNT: SHELF, ITEM, instant, SUM (0 to 9999), WHO (0 to 3).");
        int[][] good = {{0, 0, 0, 0, 0}, {1, 0, 0, 0, 0}, {0, 1, 0, 0, 0}, {0, 0, 999, 0, 0}, {0, 0, 0, 9999, 0},
            {0, 0, 0, 0, 3}, {1, 1, 999, 9999, 3}};
        for (int[] c : good) {
            RunningCount x = Check.of("shelves 2;item 0 0;item 0 0;");
            CHECK.due("counts", x.counts(c[0], c[1], c[2], c[3], c[4]), 0);
            for (int what = 0; what < 5; what++) {
                CHECK.due("count(0, " + what + ")", Check.count(x, 0, what), c[what]);
            }
        }
    }

    /** An object of whose one book LEAST is 40, SURE 50 and MOST 55 from 100 to 199, with a count of a sum. */
    private static RunningCount counted(int sum) {
        RunningCount x = Check.of("shelves 1;item 0 0;stock 0 0 50;move 0 10 from 0 100 200;move 0 5 to 0 100 200;");
        CHECK.due("counts", x.counts(0, 0, 150, sum, 0), 0);
        return x;
    }

    private static void differenceAboveMost() {
        CHECK.says("Its DIFFERENCE: by how much its SUM is above MOST (above 0)");
        CHECK.due("MOST", counted(55).difference(0), 0);
        CHECK.due("one more", counted(56).difference(0), 1);
        CHECK.due("two more", counted(57).difference(0), 2);
        CHECK.due("far more", counted(9999).difference(0), 9944);
    }

    private static void differenceBelowLeast() {
        CHECK.says("or below LEAST (below 0)");
        CHECK.due("LEAST", counted(40).difference(0), 0);
        CHECK.due("one less", counted(39).difference(0), -1);
        CHECK.due("two less", counted(38).difference(0), -2);
        CHECK.due("nothing", counted(0).difference(0), -40);
        // a book below nothing
        RunningCount x = Check.of("shelves 1;item 0 0;move 0 9 from 0 1 1;");
        x.counts(0, 0, 5, 0, 0);
        CHECK.due("above MOST below 0", x.difference(0), 9);
    }

    private static void differenceElseNought() {
        CHECK.says("else 0");
        for (int sum = 40; sum <= 55; sum++) {
            CHECK.due("SUM " + sum, counted(sum).difference(0), 0);
        }
    }

    private static void differenceAsTheBookIsNow() {
        CHECK.says("as the BOOK is now");
        RunningCount x = counted(45);
        x.narrow(0, 0, 160, 200);
        CHECK.due("the leg is to come", x.difference(0), -5);
        x.undo();
        CHECK.due("undone", x.difference(0), 0);
        x.narrow(0, 0, 100, 150);
        CHECK.due("the leg is over", x.difference(0), 0);
        x.narrow(1, 1, 151, 200);
        CHECK.due("the other is to come", x.difference(0), 5);
        x.moves(0, 3);
        x.leg(2, 1, 0, 150, 150);
        CHECK.due("one more came", x.difference(0), 2);
        // an adjustment that posted it, and one ahead of an open one
        RunningCount y = Check.of("shelves 1;item 9 0;stock 0 0 50;");
        y.counts(0, 0, 10, 55, 0);
        y.counts(0, 0, 20, 57, 1);
        CHECK.due("ahead of the adjustment", y.difference(1), 7);
        y.post(0, 0);
        CHECK.due("of the posted one", y.difference(0), 0);
        CHECK.due("of the one behind it", y.difference(1), 2);
    }

    private static int allowed(String item, int stock) {
        RunningCount x = Check.of("shelves 1;item " + item + ";stock 0 0 " + stock + ";");
        x.counts(0, 0, 0, 0, 0);
        return (int) Check.count(x, 0, 6);
    }

    private static void allowedUnitsOrShare() {
        CHECK.says("ALLOWED for it: UNITS of the ITEM, or SHARE of 100 of SURE, if that is more");
        CHECK.due("neither", allowed("0 0", 999), 0);
        CHECK.due("UNITS alone", allowed("99 0", 999), 99);
        CHECK.due("SHARE alone", allowed("0 10", 100), 10);
        CHECK.due("like ones", allowed("10 10", 100), 10);
        CHECK.due("SHARE more", allowed("9 10", 100), 10);
        CHECK.due("SHARE less", allowed("11 10", 100), 11);
        CHECK.due("SHARE of 999", allowed("99 99", 999), 989);
        CHECK.due("SHARE of nothing", allowed("3 99", 0), 3);
        CHECK.due("one more by SURE", allowed("10 10", 110), 11);
    }

    private static void allowedOfSureBelowNought() {
        CHECK.says("(of nothing, if that is below 0)");
        RunningCount x = Check.of("shelves 1;item 0 99;item 3 99;move 0 99 from 0 5 5;move 1 99 from 0 5 5;");
        x.counts(0, 0, 9, 0, 0);
        x.counts(0, 1, 9, 0, 0);
        x.counts(0, 0, 4, 0, 1);
        CHECK.due("UNITS 0", Check.count(x, 0, 6), 0);
        CHECK.due("UNITS 3", Check.count(x, 1, 6), 3);
        CHECK.due("SURE 0", Check.count(x, 2, 6), 0);
    }

    private static void allowedCut() {
        CHECK.says("cut");
        CHECK.due("99 of 100 of 1", allowed("0 99", 1), 0);
        CHECK.due("1 of 100 of 99", allowed("0 1", 99), 0);
        CHECK.due("1 of 100 of 100", allowed("0 1", 100), 1);
        CHECK.due("1 of 100 of 199", allowed("0 1", 199), 1);
        CHECK.due("1 of 100 of 200", allowed("0 1", 200), 2);
        CHECK.due("50 of 100 of 3", allowed("0 50", 3), 1);
        // cut, it is no more than UNITS
        CHECK.due("10 of 100 of 39", allowed("3 10", 39), 3);
        // SURE, not LEAST or MOST
        RunningCount x = Check.of("shelves 1;item 0 10;stock 0 0 100;move 0 50 from 0 5 9;move 0 40 to 0 5 9;");
        x.counts(0, 0, 7, 100, 0);
        CHECK.due("of SURE", Check.count(x, 0, 6), 10);
        x.narrow(0, 0, 5, 6);
        CHECK.due("of SURE now", Check.count(x, 0, 6), 5);
    }

    private static void countAnswers() {
        CHECK.says("Of a COUNT 0 its SHELF, 1 ITEM, 2 instant, 3 SUM, 4 WHO, 5 1 if POSTED, 6 ALLOWED now.");
        RunningCount x = Check.of("shelves 6;item 4 0;item 0 0;item 9 0;");
        x.counts(5, 2, 998, 77, 3);
        x.counts(4, 0, 1, 4, 2);
        x.post(4, 0);
        int[][] want = {{5, 2, 998, 77, 3, 0, 9}, {4, 0, 1, 4, 2, 1, 4}};
        for (int count = 0; count < 2; count++) {
            for (int what = 0; what < 7; what++) {
                CHECK.due("count(" + count + ", " + what + ")", Check.count(x, count, what), want[count][what]);
            }
        }
    }

    private static void countThrows() {
        CHECK.says("count: NoSuchElementException: no such one, another what.");
        RunningCount x = Check.of("shelves 1;item 4 0;");
        CHECK.due("count(0, 0) of none", Check.count(x, 0, 0), Check.THROWS);
        x.counts(0, 0, 1, 4, 2);
        x.counts(0, 0, 2, 4, 3);
        for (int count : new int[] {-1, 2, 39, 40, Integer.MIN_VALUE, Integer.MAX_VALUE}) {
            for (int what = -1; what < 8; what++) {
                CHECK.due("count(" + count + ", " + what + ")", Check.count(x, count, what), Check.THROWS);
            }
        }
        for (int what : new int[] {-1, 7, 8, Integer.MIN_VALUE, Integer.MAX_VALUE}) {
            CHECK.due("count(0, " + what + ")", Check.count(x, 0, what), Check.THROWS);
            CHECK.due("count(1, " + what + ")", Check.count(x, 1, what), Check.THROWS);
        }
        x.drop(0);
        CHECK.due("count(1, 0) behind drop", Check.count(x, 1, 0), Check.THROWS);
    }

    private static void differenceOfNoSuchOne() {
        CHECK.says("difference: NONE - 99999999: no such one.");
        RunningCount x = counted(56);
        for (int count : new int[] {-1, 1, 39, 40, Integer.MIN_VALUE, Integer.MAX_VALUE}) {
            CHECK.due("difference(" + count + ")", x.difference(count), Check.NO_SUM);
        }
        CHECK.due("difference(0)", x.difference(0), 1);
        x.drop(0);
        CHECK.due("dropped", x.difference(0), Check.NO_SUM);
        CHECK.due("of a new object", new RunningCount().difference(0), Check.NO_SUM);
    }

    private static int share(int stock, int sum) {
        RunningCount x = Check.of("shelves 1;item 0 0;stock 0 0 " + stock + ";");
        x.counts(0, 0, 0, sum, 0);
        return x.share(0);
    }

    private static void share() {
        CHECK.says("1000f times the DIFFERENCE by SURE of the BOOK at its instant, both as floats, cast to an int");
        CHECK.due("no difference", share(7, 7), 0);
        CHECK.due("twice", share(7, 14), 1000);
        CHECK.due("nothing", share(7, 0), -1000);
        CHECK.due("333.3 is cut", share(3, 4), 333);
        CHECK.due("-333.3 is cut towards 0", share(3, 2), -333);
        CHECK.due("-666.6 is cut towards 0", share(3, 1), -666);
        CHECK.due("1.001 is cut", share(999, 1000), 1);
        CHECK.due("-1.001 is cut", share(999, 998), -1);
        CHECK.due("the most", share(1, 9999), 9998000);
        // SURE below 0
        RunningCount x = Check.of("shelves 1;item 0 0;move 0 9 from 0 1 1;");
        x.counts(0, 0, 1, 0, 0);
        CHECK.due("9 by -9", x.share(0), -1000);
        x.counts(0, 0, 2, 4, 1);
        CHECK.due("13 by -9", x.share(1), -1444);
        // by SURE, whatever LEAST and MOST are
        RunningCount y = counted(66);
        CHECK.due("11 by 50", y.share(0), 220);
        CHECK.due("-4 by 50", counted(36).share(0), -80);
    }

    private static void shareOfSureNought() {
        CHECK.says("0, if SURE is 0");
        CHECK.due("no stock", share(0, 9999), 0);
        RunningCount x = Check.of("shelves 1;item 0 0;stock 0 0 9;move 0 9 from 0 1 1;move 0 5 to 0 1 9;");
        x.counts(0, 0, 1, 77, 0);
        CHECK.due("all left", x.share(0), 0);
        CHECK.due("though there is a difference", x.difference(0), 72);
    }

    private static void shareOfNoSuchOne() {
        CHECK.says("share: NONE - 99999999: no such one.");
        RunningCount x = counted(60);
        for (int count : new int[] {-1, 1, 39, 40, Integer.MIN_VALUE, Integer.MAX_VALUE}) {
            CHECK.due("share(" + count + ")", x.share(count), Check.NO_SUM);
        }
        CHECK.due("share(0)", x.share(0), 100);
        CHECK.due("of a new object", new RunningCount().share(0), Check.NO_SUM);
    }

    private static void countsNumber() {
        CHECK.says("A COUNT: its number.");
        RunningCount x = Check.of("shelves 2;item 0 0;item 0 0;");
        CHECK.due("the first", x.counts(1, 1, 500, 1, 0), 0);
        CHECK.due("at an earlier instant", x.counts(1, 1, 400, 1, 0), 1);
        CHECK.due("of another shelf", x.counts(0, 1, 500, 1, 0), 2);
        CHECK.due("count(1, 2)", Check.count(x, 1, 2), 400);
        x.drop(0);
        CHECK.due("behind drop", x.counts(0, 0, 500, 1, 0), 2);
        x.undo();
        CHECK.due("behind undo", x.counts(0, 0, 501, 1, 0), 2);
    }

    private static void countsNone() {
        CHECK.says("NONE: no such ones, numbers not as told");
        RunningCount x = Check.of("shelves 2;item 0 0;item 0 0;");
        int[][] wrong = {{-1, 0, 5, 5, 0}, {2, 0, 5, 5, 0}, {0, -1, 5, 5, 0}, {0, 2, 5, 5, 0}, {0, 0, -1, 5, 0},
            {0, 0, 1000, 5, 0}, {0, 0, 5, -1, 0}, {0, 0, 5, 10000, 0}, {0, 0, 5, 5, -1}, {0, 0, 5, 5, 4}};
        for (int[] c : wrong) {
            CHECK.due("counts", x.counts(c[0], c[1], c[2], c[3], c[4]), NONE);
        }
        for (int place = 0; place < 5; place++) {
            for (int far : new int[] {Integer.MIN_VALUE, Integer.MAX_VALUE}) {
                int[] c = {0, 0, 5, 5, 0};
                c[place] = far;
                CHECK.due("counts, " + far + " at " + place, x.counts(c[0], c[1], c[2], c[3], c[4]), NONE);
            }
        }
        CHECK.due("none came", x.now(3), 0);
        CHECK.due("of a new object", new RunningCount().counts(0, 0, 0, 0, 0), NONE);
    }

    private static void countsOfOneInstant() {
        CHECK.says("-2: there is one of that SHELF, ITEM and instant");
        RunningCount x = Check.of("shelves 2;item 0 0;item 0 0;");
        x.counts(0, 0, 50, 5, 0);
        CHECK.due("of another who", x.counts(0, 0, 50, 6, 1), -2);
        CHECK.due("the very same", x.counts(0, 0, 50, 5, 0), -2);
        CHECK.due("one earlier", x.counts(0, 0, 49, 5, 1), 1);
        CHECK.due("one later", x.counts(0, 0, 51, 5, 1), 2);
        CHECK.due("another shelf", x.counts(1, 0, 50, 5, 1), 3);
        CHECK.due("another item", x.counts(0, 1, 50, 5, 1), 4);
        RunningCount y = Check.of("shelves 1;item 0 0;");
        y.counts(0, 0, 50, 0, 0);
        y.post(0, 0);
        CHECK.due("of a posted one", y.counts(0, 0, 50, 0, 1), -2);
        RunningCount z = Check.of("shelves 1;item 0 0;");
        z.counts(0, 0, 50, 0, 0);
        z.drop(0);
        CHECK.due("of a dropped one", z.counts(0, 0, 50, 0, 1), 0);
    }

    private static void countsOfTheSameWho() {
        CHECK.says("-3: the latest OPEN COUNT (by its instant) ahead of it there is of the same WHO");
        RunningCount x = Check.of("shelves 2;item 0 0;item 0 0;stock 0 0 5;");
        x.counts(0, 0, 50, 5, 2);
        CHECK.due("one later", x.counts(0, 0, 51, 9, 2), -3);
        CHECK.due("much later", x.counts(0, 0, 999, 9, 2), -3);
        CHECK.due("another shelf", x.counts(1, 0, 51, 9, 2), 1);
        CHECK.due("another item", x.counts(0, 1, 51, 9, 2), 2);
        CHECK.due("earlier", x.counts(0, 0, 49, 9, 2), 3);
        CHECK.due("at 70", x.counts(0, 0, 70, 9, 3), 4);
        CHECK.due("not the latest made, the latest by its instant", x.counts(0, 0, 60, 9, 3), 5);
        CHECK.due("like the one at 50, which is not the latest", x.counts(0, 0, 65, 9, 2), 6);
        CHECK.due("between 50 and 60, like 50", x.counts(0, 0, 55, 9, 2), -3);
        CHECK.due("between 50 and 60, like 60", x.counts(0, 0, 55, 9, 3), 7);
        CHECK.due("behind 70, like 65", x.counts(0, 0, 71, 9, 2), 8);
        RunningCount y = Check.of("shelves 1;item 0 0;");
        y.counts(0, 0, 40, 0, 1);
        y.post(0, 0);
        CHECK.due("a posted one does not count", y.counts(0, 0, 41, 0, 1), 1);
        CHECK.due("an open one does", y.counts(0, 0, 42, 0, 1), -3);
        y.drop(1);
        CHECK.due("a dropped one does not", y.counts(0, 0, 42, 0, 1), 1);
    }

    private static void countsAheadOfAPostedOne() {
        CHECK.says("-4: there is a POSTED one there at a later instant");
        RunningCount x = Check.of("shelves 2;item 0 0;item 0 0;");
        x.counts(0, 0, 500, 0, 0);
        CHECK.due("an open one is later", x.counts(0, 0, 400, 0, 0), 1);
        x.drop(1);
        x.post(0, 0);
        CHECK.due("one earlier", x.counts(0, 0, 499, 0, 1), -4);
        CHECK.due("much earlier", x.counts(0, 0, 0, 0, 1), -4);
        CHECK.due("another shelf", x.counts(1, 0, 499, 0, 1), 1);
        CHECK.due("another item", x.counts(0, 1, 499, 0, 1), 2);
        CHECK.due("one later", x.counts(0, 0, 501, 0, 1), 3);
        x.undo();
        x.undo();
        x.undo();
        CHECK.due("undo the post", x.undo(), 3);
        CHECK.due("it is open again", x.counts(0, 0, 499, 0, 1), 1);
    }

    private static RunningCount forty() {
        RunningCount x = Check.of("shelves 2;item 0 0;item 0 0;");
        for (int i = 0; i < 40; i++) {
            CHECK.due("counts " + i, x.counts(0, 0, 10 + 2 * i, 0, i % 4), i);
        }
        return x;
    }

    private static void countsForty() {
        CHECK.says("-5: there are 40");
        RunningCount x = forty();
        CHECK.due("one more", x.counts(1, 1, 10, 0, 0), -5);
        x.post(0, 0);
        CHECK.due("posted ones are there, too", x.counts(1, 1, 10, 0, 0), -5);
        CHECK.due("now(3)", x.now(3), 40);
        x.drop(39);
        CHECK.due("39", x.counts(1, 1, 10, 0, 0), 39);
        CHECK.due("40 again", x.counts(1, 1, 11, 0, 1), -5);
        x.undo();
        CHECK.due("39 again", x.counts(1, 1, 11, 0, 1), 39);
    }

    private static void countsTheFirstThatIsSo() {
        CHECK.says("The first that is so");
        RunningCount x = forty();
        x.post(0, 0);
        CHECK.due("NONE ahead of -2", x.counts(0, 0, 12, 10000, 1), NONE);
        CHECK.due("NONE ahead of -3", x.counts(0, 0, 13, -1, 1), NONE);
        CHECK.due("NONE ahead of -4", x.counts(0, 0, 9, 0, 4), NONE);
        CHECK.due("NONE ahead of -5", x.counts(2, 0, 9, 0, 0), NONE);
        CHECK.due("-2 ahead of -5", x.counts(0, 0, 12, 0, 2), -2);
        CHECK.due("-3 ahead of -5", x.counts(0, 0, 13, 0, 1), -3);
        CHECK.due("-4 ahead of -5", x.counts(0, 0, 9, 0, 0), -4);
        CHECK.due("-5 at last", x.counts(0, 0, 13, 0, 0), -5);
        // -2 ahead of -3: of that instant, and the one ahead is of the same who
        RunningCount y = Check.of("shelves 1;item 0 0;");
        y.counts(0, 0, 10, 0, 1);
        y.counts(0, 0, 20, 0, 2);
        CHECK.due("-2 ahead of -3", y.counts(0, 0, 20, 0, 1), -2);
        // -2 ahead of -4: two posted at once
        RunningCount z = Check.of("shelves 1;item 0 0;");
        z.counts(0, 0, 10, 5, 1);
        z.counts(0, 0, 20, 5, 2);
        CHECK.due("post", z.post(0, 0), 5);
        CHECK.due("-2 ahead of -4", z.counts(0, 0, 10, 0, 3), -2);
        CHECK.due("-4", z.counts(0, 0, 15, 0, 3), -4);
    }
}
