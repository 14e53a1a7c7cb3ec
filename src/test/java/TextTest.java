/** Promises 1 to 8: a new object, feed, end, text, fault, now, item, move. */
public final class TextTest {
    private static final int NONE = RunningCount.NONE;
    private static final Check CHECK = new Check("TextTest");

    private TextTest() {
    }

    public static void main(String[] args) {
        newObject();
        feed();
        bytesOfNumbers();
        end();
        goodTexts();
        wrongTokens();
        wrongNumbers();
        tooMany();
        longTexts();
        faultedTextLeavesAll();
        goodTextClearsAll();
        now();
        items();
        moves();
        CHECK.end();
    }

    private static void newObject() {
        RunningCount x = new RunningCount();
        int[] want = {1, 0, 0, 0, 0, 0, 0, 0};
        for (int what = 0; what < want.length; what++) {
            CHECK.due("new: now(" + what + ")", x.now(what), want[what]);
        }
        CHECK.due("new: fault()", x.fault(), 0);
        CHECK.due("new: item(0, 0)", x.item(0, 0), NONE);
        CHECK.due("new: undo()", x.undo(), NONE);
        CHECK.due("new: due()", x.due(), 0);
        CHECK.due("new: text()", x.text(), -1);
        CHECK.due("new: fault() behind text()", x.fault(), 1);
    }

    private static void feed() {
        RunningCount x = new RunningCount();
        for (int i = 1; i <= 32; i++) {
            CHECK.due("feed " + i, x.feed(0, 0, 0, 0, 0), 20 * i);
        }
        CHECK.due("feed beyond 640", x.feed(0, 0, 0, 0, 0), NONE);
        CHECK.due("640 bytes stay", x.now(7), 640);
        x.end(621);
        CHECK.due("feed at 621", x.feed(0, 0, 0, 0, 0), NONE);
        CHECK.due("621 stay", x.now(7), 621);
        x.end(620);
        CHECK.due("feed at 620", x.feed(0, 0, 0, 0, 0), 640);
    }

    private static void bytesOfNumbers() {
        RunningCount x = new RunningCount();
        // "shelves 3;item 1 2;" byte by byte, the highest of each number first
        x.feed(0x7368656C, 0x76657320, 0x333B6974, 0x656D2031, 0x20323B20);
        CHECK.due("text of numbers", x.text(), 2);
        CHECK.due("now(0)", x.now(0), 3);
        CHECK.due("item(0, 1)", x.item(0, 1), 2);
        x.feed(0x7368656C, 0x76657320, 0x333B8020, 0, 0);
        CHECK.due("a byte of 128", x.text(), -11);
        x.feed(-1, -1, -1, -1, -1);
        CHECK.due("bytes of 255", x.text(), -1);
    }

    private static void end() {
        RunningCount x = new RunningCount();
        CHECK.due("end(0) of nothing", x.end(0), true);
        CHECK.due("end(1) of nothing", x.end(1), false);
        x.feed(1, 2, 3, 4, 5);
        CHECK.due("end(21)", x.end(21), false);
        CHECK.due("end(-1)", x.end(-1), false);
        CHECK.due("end(min)", x.end(Integer.MIN_VALUE), false);
        CHECK.due("end(max)", x.end(Integer.MAX_VALUE), false);
        CHECK.due("20 stay", x.now(7), 20);
        CHECK.due("end(20)", x.end(20), true);
        CHECK.due("end(7)", x.end(7), true);
        CHECK.due("7 stay", x.now(7), 7);
        CHECK.due("end(8) then", x.end(8), false);
        CHECK.due("feed behind 7", x.feed(0, 0, 0, 0, 0), 27);
        x.end(0);
        Check.put(x, "shelves 2;");
        x.end(9);
        x.feed(0x3B202020, 0x20202020, 0x20202020, 0x20202020, 0x20202020);
        CHECK.due("what comes behind the cut tape", x.text(), 1);
    }

    private static void good(String text, int lines) {
        RunningCount x = new RunningCount();
        CHECK.due(text, Check.tell(x, text), lines);
        CHECK.due("fault() of " + text, x.fault(), 0);
        CHECK.due("tape behind " + text, x.now(7), 0);
    }

    private static void goodTexts() {
        good("shelves 1;", 1);
        good("shelves 6;", 1);
        good("\n shelves\n006\n;\n ", 1);
        good("shelves 1;item 0 0;item 99 99;", 3);
        good("shelves 1;item 0 0;stock 0 0 0;", 3);
        good("shelves 2;item 0 0;stock 1 0 999;stock 0 0 999;", 4);
        good("shelves 2;item 0 0;move 0 1;move 0 99;", 4);
        good("shelves 2;item 0 0;move 0 1 from 1 0 0;", 3);
        good("shelves 2;item 0 0;move 0 1 to 1 999 999;", 3);
        good("shelves 2;item 0 0;move 0 1 from 0 0 999 to 1 5 6;", 3);
        good("shelves 1;" + Check.repeat("item 1 1;", 5), 6);
        good("shelves 1;item 1 1;" + Check.repeat("move 0 1;", 16), 18);
        good("shelves 6;" + Check.repeat("item 1 1;", 5) + allStocks(), 36);
    }

    private static String allStocks() {
        StringBuilder stocks = new StringBuilder();
        for (int i = 0; i < 30; i++) {
            stocks.append("stock ").append(i % 6).append(' ').append(i / 6).append(" 5;");
        }
        return stocks.toString();
    }

    private static void bad(String text, int place, int kind) {
        RunningCount x = new RunningCount();
        CHECK.due(text, Check.tell(x, text), -1 - place);
        CHECK.due("fault() of " + text, x.fault(), kind);
        CHECK.due("tape behind " + text, x.now(7), 0);
        CHECK.due("shelves behind " + text, x.now(0), 1);
    }

    private static void wrongTokens() {
        bad("", 0, 1);
        bad("   ", 3, 1);
        bad(";", 0, 1);
        bad("1", 0, 1);
        bad("item 1 1;", 0, 1);
        bad("shelf 1;", 0, 1);
        bad("shelvess 1;", 0, 1);
        bad("shelves1;", 0, 1);
        bad("Shelves 1;", 0, 1);
        bad("shelves", 7, 1);
        bad("shelves ", 8, 1);
        bad("shelves ;", 8, 1);
        bad("shelves x;", 8, 1);
        bad("shelves 1", 9, 1);
        bad("shelves 1  ", 11, 1);
        bad("shelves 1 1;", 10, 1);
        bad("shelves 1x;", 8, 1);
        bad("shelves 1X;", 9, 1);
        bad("shelves 0001;", 8, 1);
        bad("shelves 9999;", 8, 1);
        bad("shelves\t1;", 7, 1);
        bad("shelves -1;", 8, 1);
        bad("shelves 1;;", 10, 1);
        bad("shelves 1;shelves 1;", 10, 1);
        bad("shelves 1;5;", 10, 1);
        bad("shelves 1;items 1 1;", 10, 1);
        bad("shelves 1;from 1 1;", 10, 1);
        bad("shelves 1;item 1;", 16, 1);
        bad("shelves 1;item 1 1 1;", 19, 1);
        bad("shelves 1;item 1 1;stock 0 0;", 28, 1);
        bad("shelves 1;item 1 1;stock 0 0 1;item 1 1;", 31, 1);
        bad("shelves 1;item 1 1;move 0 1;stock 0 0 1;", 28, 1);
        bad("shelves 1;item 1 1;move 0 1;item 1 1;", 28, 1);
        bad("shelves 1;item 1 1;move 0;", 25, 1);
        bad("shelves 1;item 1 1;move 0 1 at 0 1 1;", 28, 1);
        bad("shelves 1;item 1 1;move 0 1 from 0 1;", 36, 1);
        bad("shelves 1;item 1 1;move 0 1 from 0 1 1 from 0 1 1;", 39, 1);
        bad("shelves 1;item 1 1;move 0 1 to 0 1 1 to 0 1 1;", 37, 1);
        bad("shelves 1;item 1 1;move 0 1 to 0 1 1 from 0 1 1;", 37, 1);
        bad("shelves 1;item 1 1;move 0 1 from 0 1 1 5;", 39, 1);
        bad("shelves 1;item 1 1;move 0 1 from 0 1 1000;", 37, 1);
        bad("shelves 1;item 1 1;move 0 1 from 0 1 1", 38, 1);
        bad("shelves 1;item 1 item 1 1;", 17, 1);
        bad("shelves 1;item 1 1;stock 0 0 stock 0 0 1;", 29, 1);
        bad("shelves 1;item 1 1;stock 0 0 move 0 1;", 29, 1);
        bad("shelves 1;item 1 1;move 0 move 0 1;", 26, 1);
        bad("shelves 1;item 1 1;move 0 1 from 0 1 to 0 1 1;", 37, 1);
        bad("shelves 1;item 1 1;move 0 1 from to 0 1 1;", 33, 1);
        bad("shelves 1;item 1 1;move 0 1 from 0 to 0 1 1;", 35, 1);
        bad("shelves 1;item 1 1;move 0 1 from 0;", 34, 1);
        bad("shelves 1;item 1 1;move 0 1 to;", 30, 1);
        bad("shelves 1;item 1 1;move 0 1 from 0 1;move 0 1;", 36, 1);
        bad("shelves 1;item 1 1;move 0 1 from 0 1 1 move 0 1;", 39, 1);
        for (String word : new String[] {"1a", "1z", "a1", "z1", "1m1", "12345"}) {
            bad("shelves " + word + ";", 8, 1);
        }
        for (String sign : new String[] {"`", "{", "/", ":", ".", "_", "A", "Z", "\r", "\t", "\0"}) {
            bad("shelves 1" + sign + ";", 9, 1);
            bad("shelves 1;" + sign, 10, 1);
        }
        for (String word : new String[] {"xhelves", "shelvex", "shelve", "shexves"}) {
            bad(word + " 1;", 0, 1);
        }
        for (String word : new String[] {"xtem 1 1;", "itex 1 1;", "ite 1 1;", "xtock 0 0 1;", "stocx 0 0 1;",
            "stoc 0 0 1;", "xove 0 1;", "movx 0 1;", "mov 0 1;"}) {
            bad("shelves 1;item 1 1;" + word, 19, 1);
        }
        for (String word : new String[] {"xrom", "frox", "fro", "xo", "tx", "t", "fromm", "too"}) {
            bad("shelves 1;item 1 1;move 0 1 " + word + " 0 1 1;", 28, 1);
        }
        // a sixth item that can't come at all is the fault that stands first
        bad("shelves 1;" + Check.repeat("item 1 1;", 5) + "stock 0 0 1;item 1 1;", 67, 1);
    }

    private static void wrongNumbers() {
        bad("shelves 0;", 8, 2);
        bad("shelves 7;", 8, 2);
        bad("shelves 7", 8, 2);
        bad("shelves 1;item 100 1;", 15, 2);
        bad("shelves 1;item 1 100;", 17, 2);
        bad("shelves 1;stock 0 0 1;", 18, 2);
        bad("shelves 2;item 1 1;stock 2 0 1;", 25, 2);
        bad("shelves 2;item 1 1;stock 1 1 1;", 27, 2);
        bad("shelves 2;item 1 1;item 1 1;stock 1 1 1;stock 1 0 1;stock 0 1 1;stock 1 1 1;", 72, 2);
        bad("shelves 6;" + Check.repeat("item 1 1;", 5) + allStocks() + "stock 5 4 5;", 423, 2);
        bad("shelves 1;item 1 1;stock 0 0 1;stock 0 0 x", 39, 2);
        bad("shelves 1;move 0 1;", 15, 2);
        bad("shelves 1;item 1 1;move 1 1;", 24, 2);
        bad("shelves 1;item 1 1;move 0 0;", 26, 2);
        bad("shelves 1;item 1 1;move 0 100;", 26, 2);
        bad("shelves 1;item 1 1;move 0 1 from 1 1 1;", 33, 2);
        bad("shelves 1;item 1 1;move 0 1 to 1 1 1;", 31, 2);
        bad("shelves 1;item 1 1;move 0 1 from 0 5 4;", 37, 2);
        bad("shelves 1;item 1 1;move 0 1 to 0 5 4;", 35, 2);
    }

    private static void tooMany() {
        bad("shelves 1;" + Check.repeat("item 1 1;", 6), 55, 3);
        bad("shelves 1;" + Check.repeat("item 1 1;", 5) + "item x", 55, 3);
        bad("shelves 1;item 1 1;" + Check.repeat("move 0 1;", 17), 163, 3);
        bad("shelves 1;item 1 1;" + Check.repeat("move 0 1;", 16) + "move", 163, 3);
    }

    private static void longTexts() {
        String start = "shelves 1;item 1 1;";
        int left = 600 - start.length();
        good(start + Check.blanks(left), 2);
        bad(start + Check.blanks(left + 1), 600, 1);
        bad(start + Check.blanks(left + 21), 600, 1);
        bad(start + Check.blanks(left - 9) + "move 0 1 ;;", 600, 1);
        good(start + Check.blanks(left - 9) + "move 0 1;", 3);
        bad(start + Check.blanks(left - 8) + "move 0 1;", 600, 1);
        bad(start + Check.blanks(left - 6) + "move 0 1;", 600, 1);
        // a token that begins ahead of 600 is read whole
        bad(start + Check.blanks(left - 1) + "move 0 1;", 600, 1);
        bad(start + Check.blanks(left - 1) + "mover 0 1;", 599, 1);
        bad(start + Check.blanks(left - 3) + "stocks", 597, 1);
        bad(start + Check.blanks(left - 8) + "move 0 100;", 599, 2);
        bad(start + Check.blanks(left - 8) + "move 0 1000;", 599, 1);
        bad(start + Check.blanks(left - 7) + "move 0 100;", 600, 1);
        bad(start + Check.blanks(left) + "X", 600, 1);
        bad(start + Check.blanks(left - 1) + "X ", 599, 1);
        bad("shelves 7;" + Check.blanks(600), 8, 2);
        bad("shelves 1;item 1 1;" + Check.repeat("move 0 1;", 17) + Check.blanks(440), 163, 3);
        bad("shelves 1" + Check.blanks(600), 600, 1);
        bad("shelves 1" + Check.blanks(591), 600, 1);
        bad("shelves 1" + Check.blanks(590), 599, 1);
        bad(Check.blanks(640), 600, 1);
        RunningCount x = new RunningCount();
        CHECK.due("600 signs", Check.tell(x, Check.repeat(";", 600)), -1);
        CHECK.due("640 digits", Check.tell(x, Check.repeat("9", 640)), -1);
        CHECK.due("fault() of 640 digits", x.fault(), 1);
    }

    private static void faultedTextLeavesAll() {
        RunningCount x = Check.of("shelves 2;item 1 2;stock 0 0 7;move 0 3 from 0 5 9;");
        x.counts(0, 0, 1, 7, 0);
        x.post(0, 0);
        x.counts(1, 0, 1, 7, 0);
        CHECK.due("a text with a fault", Check.tell(x, "shelves 5;item 9 9;item 9 9;stock 0 0 9;move 0 1;x"), -50);
        CHECK.due("fault()", x.fault(), 1);
        int[] want = {2, 1, 1, 2, 1, 1, 3, 0};
        for (int what = 0; what < want.length; what++) {
            CHECK.due("stays: now(" + what + ")", x.now(what), want[what]);
        }
        CHECK.due("stays: item(0, 0)", x.item(0, 0), 1);
        CHECK.due("stays: book(0, 0, 4, 0)", x.book(0, 0, 4, 0), 7);
        CHECK.due("stays: move(0, 1)", Check.move(x, 0, 1), 3);
        CHECK.due("stays: undo()", x.undo(), 2);
        CHECK.due("a text with another fault", Check.tell(x, "shelves 9;"), -9);
        CHECK.due("fault() of the latest", x.fault(), 2);
    }

    private static void goodTextClearsAll() {
        RunningCount x = Check.of("shelves 2;item 1 2;stock 1 0 7;move 0 3 from 0 5 9 to 1 9 9;");
        x.counts(1, 0, 1, 9, 0);
        x.counts(1, 0, 2, 9, 1);
        x.post(1, 0);
        Check.tell(x, "x");
        CHECK.due("the second text", Check.tell(x, "shelves 3;item 4 5;item 6 7;move 0 3;"), 4);
        int[] want = {3, 2, 1, 0, 0, 0, 0, 0};
        for (int what = 0; what < want.length; what++) {
            CHECK.due("second: now(" + what + ")", x.now(what), want[what]);
        }
        CHECK.due("second: fault()", x.fault(), 0);
        CHECK.due("second: undo()", x.undo(), NONE);
        CHECK.due("second: book(1, 0, 999, 0)", x.book(1, 0, 999, 0), 0);
        CHECK.due("second: move(0, 10)", Check.move(x, 0, 10), NONE);
        CHECK.due("second: move(0, 20)", Check.move(x, 0, 20), NONE);
        CHECK.due("second: adjusted(0, 3)", x.adjusted(0, 3), Check.NO_SUM);
        CHECK.due("the third text", Check.tell(x, "shelves 2;item 1 2;stock 0 0 4;"), 3);
        CHECK.due("third: book(1, 0, 999, 0)", x.book(1, 0, 999, 0), 0);
        CHECK.due("third: now(1)", x.now(1), 1);
        CHECK.due("third: now(2)", x.now(2), 0);
    }

    private static void now() {
        RunningCount x = Check.of("shelves 4;item 1 0;item 2 0;move 0 3;move 1 4;move 1 5;");
        x.counts(0, 0, 5, 0, 0);
        x.counts(0, 1, 5, 0, 0);
        x.counts(0, 0, 6, 0, 1);
        x.post(0, 0);
        x.feed(0, 0, 0, 0, 0);
        int[] want = {4, 2, 3, 3, 2, 1, 4, 20};
        for (int what = 0; what < want.length; what++) {
            CHECK.due("now(" + what + ")", x.now(what), want[what]);
        }
        CHECK.due("now(8)", x.now(8), NONE);
        CHECK.due("now(-1)", x.now(-1), NONE);
        CHECK.due("now(min)", x.now(Integer.MIN_VALUE), NONE);
    }

    private static void items() {
        RunningCount x = Check.of("shelves 1;item 1 99;item 99 0;");
        CHECK.due("item(0, 0)", x.item(0, 0), 1);
        CHECK.due("item(0, 1)", x.item(0, 1), 99);
        CHECK.due("item(1, 0)", x.item(1, 0), 99);
        CHECK.due("item(1, 1)", x.item(1, 1), 0);
        CHECK.due("item(2, 0)", x.item(2, 0), NONE);
        CHECK.due("item(-1, 0)", x.item(-1, 0), NONE);
        CHECK.due("item(max, 0)", x.item(Integer.MAX_VALUE, 0), NONE);
        CHECK.due("item(0, 2)", x.item(0, 2), NONE);
        CHECK.due("item(0, -1)", x.item(0, -1), NONE);
    }

    private static void moves() {
        RunningCount x = Check.of("shelves 3;item 0 0;item 0 0;"
                + "move 1 17 from 2 3 44 to 1 55 666;move 0 99 to 0 7 7;move 0 1;");
        int[] whats = {0, 1, 10, 11, 12, 20, 21, 22};
        int[][] want = {{1, 17, 2, 3, 44, 1, 55, 666}, {0, 99, -1, -1, -1, 0, 7, 7}, {0, 1, -1, -1, -1, -1, -1, -1}};
        for (int move = 0; move < want.length; move++) {
            for (int i = 0; i < whats.length; i++) {
                CHECK.due("move(" + move + ", " + whats[i] + ")", Check.move(x, move, whats[i]), want[move][i]);
            }
        }
        for (int what : new int[] {-1, 2, 9, 13, 19, 23, Integer.MAX_VALUE}) {
            CHECK.due("move(0, " + what + ")", Check.move(x, 0, what), Check.THROWS);
        }
        for (int move : new int[] {-1, 3, Integer.MIN_VALUE, Integer.MAX_VALUE}) {
            CHECK.due("move(" + move + ", 0)", Check.move(x, move, 0), Check.THROWS);
            CHECK.due("move(" + move + ", 10)", Check.move(x, move, 10), Check.THROWS);
        }
    }
}
