/** Promises 1 to 8 sentence by sentence at their boundaries: a new object, the tape, what a text leaves. */
public final class EdgesOfTapeTest {
    private static final int NONE = RunningCount.NONE;
    private static final Check CHECK = new Check("EdgesOfTapeTest");
    /** "shelves 2;item 1 1;" and a blank. */
    private static final int[] GOOD = {0x7368656C, 0x76657320, 0x323B6974, 0x656D2031, 0x20313B20};

    private EdgesOfTapeTest() {
    }

    public static void main(String[] args) {
        newObject();
        feedHighestFirst();
        feedBehindTheTape();
        feedBeyond640();
        endFirstBytesAlone();
        endFalse();
        textEmptiesTheTape();
        textLines();
        textWithFaultLeavesAll();
        faultOfTheLatest();
        faultWithoutOne();
        now();
        nowOfAnotherWhat();
        item();
        itemNone();
        move();
        moveNotThere();
        moveThrows();
        CHECK.end();
    }

    private static int feed(RunningCount x, int... numbers) {
        return x.feed(numbers[0], numbers[1], numbers[2], numbers[3], numbers[4]);
    }

    private static void newObject() {
        CHECK.says("One SHELF, no ITEMS; an empty tape.");
        RunningCount x = new RunningCount();
        CHECK.due("now(0)", x.now(0), 1);
        CHECK.due("now(1)", x.now(1), 0);
        CHECK.due("now(2)", x.now(2), 0);
        CHECK.due("now(3)", x.now(3), 0);
        CHECK.due("now(4)", x.now(4), 0);
        CHECK.due("now(5)", x.now(5), 0);
        CHECK.due("now(6)", x.now(6), 0);
        CHECK.due("now(7)", x.now(7), 0);
        CHECK.due("end(1)", x.end(1), false);
        CHECK.due("end(0)", x.end(0), true);
        CHECK.due("moves(0, 1)", x.moves(0, 1), NONE);
        CHECK.due("counts(0, 0, 0, 0, 0)", x.counts(0, 0, 0, 0, 0), NONE);
        CHECK.due("book(0, 0, 0, 0)", x.book(0, 0, 0, 0), Check.NO_SUM);
        CHECK.due("undo()", x.undo(), NONE);
        CHECK.due("text()", x.text(), -1);
    }

    private static void feedHighestFirst() {
        CHECK.says("Twenty bytes come behind the tape, of each number the highest first");
        RunningCount x = new RunningCount();
        CHECK.due("feed", feed(x, GOOD), 20);
        CHECK.due("text", x.text(), 2);
        // a sign that is no token stands at each of the twenty places
        for (int place = 0; place < 20; place++) {
            int[] numbers = {0x20202020, 0x20202020, 0x20202020, 0x20202020, 0x20202020};
            int shift = 24 - 8 * (place % 4);
            numbers[place / 4] = numbers[place / 4] & ~(255 << shift) | 255 << shift;
            feed(x, numbers);
            CHECK.due("a byte of 255 at " + place, x.text(), -1 - place);
        }
    }

    private static void feedBehindTheTape() {
        CHECK.says("behind the tape: how many it has");
        RunningCount x = new RunningCount();
        for (int i = 1; i <= 32; i++) {
            CHECK.due("feed " + i, x.feed(0, 0, 0, 0, 0), 20 * i);
            CHECK.due("now(7)", x.now(7), 20 * i);
        }
        x.end(0);
        feed(x, GOOD);
        x.end(19);
        CHECK.due("feed behind 19", x.feed(0x2073746F, 0x636B2030, 0x20302037, 0x3B202020, 0x20202020), 39);
        CHECK.due("text", x.text(), 3);
        CHECK.due("book", x.book(0, 0, 0, 0), 7);
    }

    private static void feedBeyond640() {
        CHECK.says("NONE, and none come, if it would have more than 640");
        for (int bytes = 618; bytes <= 640; bytes++) {
            RunningCount x = new RunningCount();
            for (int i = 0; i < 32; i++) {
                x.feed(0x20202020, 0x20202020, 0x20202020, 0x20202020, 0x20202020);
            }
            x.end(bytes);
            CHECK.due("feed at " + bytes, x.feed(-1, -1, -1, -1, -1), bytes <= 620 ? bytes + 20 : NONE);
            CHECK.due("now(7)", x.now(7), bytes <= 620 ? bytes + 20 : bytes);
            CHECK.due("end of one more", x.end(bytes + 1), bytes <= 620);
        }
        // none come, not even as many as have room
        RunningCount y = new RunningCount();
        Check.put(y, "shelves 2;" + Check.blanks(620));
        CHECK.due("feed at 630", y.feed(0, 0, 0, 0, 0), NONE);
        CHECK.due("end(600)", y.end(600), true);
        CHECK.due("text", y.text(), 1);
    }

    private static void endFirstBytesAlone() {
        CHECK.says("The tape has its first n bytes alone: true");
        for (int n = 0; n <= 20; n++) {
            RunningCount x = new RunningCount();
            feed(x, GOOD);
            CHECK.due("end(" + n + ")", x.end(n), true);
            CHECK.due("now(7)", x.now(7), n);
            CHECK.due("end(" + n + ") again", x.end(n), true);
            CHECK.due("end of one more", x.end(n + 1), false);
            CHECK.due("feed", x.feed(0x20202020, 0x20202020, 0x20202020, 0x20202020, 0x20202020), n + 20);
        }
        RunningCount y = new RunningCount();
        feed(y, GOOD);
        y.end(10);
        CHECK.due("the first ten", y.text(), 1);
    }

    private static void endFalse() {
        CHECK.says("false, if it has not so many, or n is below 0");
        RunningCount x = new RunningCount();
        CHECK.due("end(1) of none", x.end(1), false);
        CHECK.due("end(-1) of none", x.end(-1), false);
        feed(x, GOOD);
        for (int n : new int[] {21, 22, 640, 641, Integer.MAX_VALUE, -1, -2, -20, Integer.MIN_VALUE}) {
            CHECK.due("end(" + n + ")", x.end(n), false);
            CHECK.due("now(7)", x.now(7), 20);
        }
        CHECK.due("the tape is as it was", x.text(), 2);
    }

    private static void textEmptiesTheTape() {
        CHECK.says("The tape (empty then, even with a FAULT)");
        for (String text : new String[] {"shelves 2;", "shelves 7;", "", "x", "shelves 1;" + Check.blanks(630)}) {
            RunningCount x = new RunningCount();
            Check.tell(x, text);
            CHECK.due("now(7) behind " + text, x.now(7), 0);
            CHECK.due("end(1)", x.end(1), false);
            CHECK.due("feed", x.feed(0, 0, 0, 0, 0), 20);
            x.end(0);
            CHECK.due("text of nothing", x.text(), -1);
        }
    }

    private static void textLines() {
        CHECK.says("is a TEXT: how many LINES");
        CHECK.due("one", Check.tell(new RunningCount(), "shelves 2;"), 1);
        CHECK.due("of each kind one", Check.tell(new RunningCount(),
                "shelves 2;item 1 1;stock 0 0 1;move 0 1 from 0 1 1;"), 4);
        StringBuilder text = new StringBuilder("shelves 6;" + Check.repeat("item 1 1;", 5));
        for (int i = 0; i < 30; i++) {
            text.append("stock ").append(i / 5).append(' ').append(i % 5).append(" 1;");
        }
        text.append(Check.repeat("move 0 1;", 16));
        CHECK.due("bytes", text.length(), 559);
        CHECK.due("all there can be", Check.tell(new RunningCount(), text.toString()), 52);
        RunningCount x = new RunningCount();
        for (int i = 0; i < 3; i++) {
            CHECK.due("of this text alone", Check.tell(x, "shelves 2;item 1 1;"), 2);
            Check.tell(x, "shelves 2;item 1 1;item 2 2;x");
        }
    }

    private static void textWithFaultLeavesAll() {
        CHECK.says("-1 less the place of a FAULT: all stays");
        String[] faulty = {"", "x", "shelves 7;", "shelves 5;item 9 9;item 8 8;stock 4 1 9;move 1 9 from 4 1 2;move 2 1;",
            "shelves 1;" + Check.repeat("item 0 0;", 6), "shelves 1;item 0 0;" + Check.repeat("move 0 1;", 17),
            "shelves 6;" + Check.blanks(620)};
        int[] places = {0, 0, 8, 65, 55, 163, 600};
        for (int i = 0; i < faulty.length; i++) {
            RunningCount x = Check.busy();
            RunningCount twin = Check.busy();
            CHECK.due("text of " + faulty[i], Check.tell(x, faulty[i]), -1 - places[i]);
            Check.tell(twin, "?");
            CHECK.same("text of " + faulty[i], x, twin);
            // nor does anything of it stay for the next text
            String next = "shelves 2;item 1 1;stock 1 0 5;move 0 1;";
            CHECK.due("the next text", Check.tell(x, next), 4);
            CHECK.same("the next text", x, Check.of(next));
        }
    }

    private static void faultOfTheLatest() {
        CHECK.says("The kind of the FAULT of the latest text()");
        RunningCount x = new RunningCount();
        String[] texts = {"x", "shelves 7;", "shelves 1;" + Check.repeat("item 1 1;", 6), "shelves 7;", "shelves 1;", ""};
        int[] kinds = {1, 2, 3, 2, 0, 1};
        for (int i = 0; i < texts.length; i++) {
            Check.put(x, texts[i]);
            CHECK.due("ahead of text()", x.fault(), i == 0 ? 0 : kinds[i - 1]);
            x.text();
            CHECK.due("fault() of " + texts[i], x.fault(), kinds[i]);
            CHECK.due("once more", x.fault(), kinds[i]);
        }
    }

    private static void faultWithoutOne() {
        CHECK.says("0 without one and ahead of any");
        RunningCount x = new RunningCount();
        CHECK.due("ahead of any", x.fault(), 0);
        feed(x, GOOD);
        CHECK.due("ahead of any, with a tape", x.fault(), 0);
        x.text();
        CHECK.due("without one", x.fault(), 0);
        Check.tell(x, "shelves 0;");
        CHECK.due("with one", x.fault(), 2);
        Check.tell(x, "shelves 2;");
        CHECK.due("without one again", x.fault(), 0);
    }

    private static void now() {
        CHECK.says("0 SHELVES, 1 ITEMS, 2 MOVES, 3 COUNTS, 4 OPEN ones, 5 ADJUSTMENTS, 6 what can be undone, 7 bytes");
        RunningCount x = Check.of("shelves 6;item 0 0;item 0 0;item 0 0;item 0 0;item 0 0;move 0 1;");
        nowIs(x, 6, 5, 1, 0, 0, 0, 0, 0);
        x.moves(4, 1);
        nowIs(x, 6, 5, 2, 0, 0, 0, 1, 0);
        x.counts(5, 4, 1, 0, 0);
        nowIs(x, 6, 5, 2, 1, 1, 0, 2, 0);
        x.counts(5, 4, 2, 0, 1);
        nowIs(x, 6, 5, 2, 2, 2, 0, 3, 0);
        x.post(5, 4);
        nowIs(x, 6, 5, 2, 2, 1, 1, 4, 0);
        x.drop(1);
        nowIs(x, 6, 5, 2, 1, 0, 1, 5, 0);
        x.feed(0, 0, 0, 0, 0);
        nowIs(x, 6, 5, 2, 1, 0, 1, 5, 20);
        x.undo();
        nowIs(x, 6, 5, 2, 2, 1, 1, 4, 20);
        x.undo();
        nowIs(x, 6, 5, 2, 2, 2, 0, 3, 20);
    }

    private static void nowIs(RunningCount x, int... want) {
        for (int what = 0; what < want.length; what++) {
            CHECK.due("now(" + what + ")", x.now(what), want[what]);
        }
    }

    private static void nowOfAnotherWhat() {
        CHECK.says("NONE for another what.");
        RunningCount x = Check.busy();
        for (int what : new int[] {-1, -2, 8, 9, 100, Integer.MAX_VALUE, Integer.MIN_VALUE}) {
            CHECK.due("now(" + what + ")", x.now(what), NONE);
        }
    }

    private static void item() {
        CHECK.says("Of an ITEM 0 UNITS, 1 SHARE.");
        RunningCount x = Check.of("shelves 1;item 0 99;item 99 0;item 3 4;item 5 6;item 7 8;");
        int[][] want = {{0, 99}, {99, 0}, {3, 4}, {5, 6}, {7, 8}};
        for (int item = 0; item < 5; item++) {
            CHECK.due("UNITS of " + item, x.item(item, 0), want[item][0]);
            CHECK.due("SHARE of " + item, x.item(item, 1), want[item][1]);
        }
    }

    private static void itemNone() {
        CHECK.says("NONE: no such one, another what.");
        RunningCount x = Check.of("shelves 1;item 3 4;item 5 6;");
        for (int item : new int[] {-1, 2, 4, 5, Integer.MIN_VALUE, Integer.MAX_VALUE}) {
            CHECK.due("item(" + item + ", 0)", x.item(item, 0), NONE);
            CHECK.due("item(" + item + ", 1)", x.item(item, 1), NONE);
        }
        for (int what : new int[] {-1, 2, Integer.MIN_VALUE, Integer.MAX_VALUE}) {
            CHECK.due("item(0, " + what + ")", x.item(0, what), NONE);
        }
        CHECK.due("of a new object", new RunningCount().item(0, 0), NONE);
        RunningCount full = Check.of("shelves 1;" + Check.repeat("item 3 4;", 5));
        CHECK.due("of five the sixth", full.item(5, 0), NONE);
    }

    private static void move() {
        CHECK.says("Of a MOVE 0 its ITEM, 1 SUM; of LEG 0: 10 the SHELF, 11 EARLY, 12 LATE; of LEG 1: 20, 21, 22");
        RunningCount x = Check.of("shelves 6;item 0 0;item 0 0;move 1 99 from 5 0 999 to 0 998 999;");
        x.moves(0, 1);
        x.leg(1, 1, 4, 7, 8);
        x.leg(1, 0, 3, 5, 6);
        int[] whats = {0, 1, 10, 11, 12, 20, 21, 22};
        int[][] want = {{1, 99, 5, 0, 999, 0, 998, 999}, {0, 1, 3, 5, 6, 4, 7, 8}};
        for (int move = 0; move < 2; move++) {
            for (int i = 0; i < whats.length; i++) {
                CHECK.due("move(" + move + ", " + whats[i] + ")", Check.move(x, move, whats[i]), want[move][i]);
            }
        }
    }

    private static void moveNotThere() {
        CHECK.says("NONE: it is not there");
        RunningCount x = Check.of("shelves 2;item 0 0;move 0 1 from 1 3 4;move 0 1 to 1 3 4;move 0 1;");
        int[][] want = {{1, 3, 4, -1, -1, -1}, {-1, -1, -1, 1, 3, 4}, {-1, -1, -1, -1, -1, -1}, {-1, -1, -1, -1, -1, -1}};
        x.moves(0, 1);
        int[] whats = {10, 11, 12, 20, 21, 22};
        for (int move = 0; move < 4; move++) {
            for (int i = 0; i < whats.length; i++) {
                CHECK.due("move(" + move + ", " + whats[i] + ")", Check.move(x, move, whats[i]), want[move][i]);
            }
        }
    }

    private static void moveThrows() {
        CHECK.says("move: NoSuchElementException: no such one, another what.");
        RunningCount x = Check.of("shelves 2;item 0 0;move 0 1 from 1 3 4;move 0 1 to 1 3 4;");
        for (int move : new int[] {-1, 2, 3, 39, 40, Integer.MIN_VALUE, Integer.MAX_VALUE}) {
            for (int what : new int[] {0, 1, 10, 11, 12, 20, 21, 22, 99}) {
                CHECK.due("move(" + move + ", " + what + ")", Check.move(x, move, what), Check.THROWS);
            }
        }
        for (int what : new int[] {-1, 2, 3, 9, 13, 19, 23, 30, Integer.MIN_VALUE, Integer.MAX_VALUE}) {
            CHECK.due("move(0, " + what + ")", Check.move(x, 0, what), Check.THROWS);
            CHECK.due("move(1, " + what + ")", Check.move(x, 1, what), Check.THROWS);
        }
        CHECK.due("of a new object", Check.move(new RunningCount(), 0, 0), Check.THROWS);
    }
}
