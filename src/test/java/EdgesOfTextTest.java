/** What "Terms" says of TOKENS, a TEXT and FAULTS, sentence by sentence, at its boundaries. */
public final class EdgesOfTextTest {
    private static final Check CHECK = new Check("EdgesOfTextTest");
    private static final String HEAD = "shelves 2;item 1 1;";

    private EdgesOfTextTest() {
    }

    public static void main(String[] args) {
        blanks();
        smallLetters();
        digits();
        runs();
        sixHundredBytes();
        shelvesLine();
        linesThatMayMiss();
        orderOfLines();
        legsOfALine();
        shelvesOneToSix();
        unitsAndShare();
        fiveItems();
        numberedFromNought();
        stockSum();
        stockOnce();
        moveSum();
        instants();
        secondNoEarlier();
        sixteenMoves();
        firstAlongTheText();
        firstInTheList();
        tokenThatCannotCome();
        theEnd();
        moreThanSixHundred();
        tokensReadWhole();
        numberNotAsTold();
        itemOfASecondStock();
        oneMoreThanTold();
        CHECK.end();
    }

    private static void good(String text, int lines) {
        RunningCount x = new RunningCount();
        CHECK.due(text, Check.tell(x, text), lines);
        CHECK.due("fault() of " + text, x.fault(), 0);
    }

    private static void bad(String text, int place, int kind) {
        RunningCount x = new RunningCount();
        CHECK.due(text, Check.tell(x, text), -1 - place);
        CHECK.due("fault() of " + text, x.fault(), kind);
    }

    private static void blanks() {
        CHECK.says("TOKENS of a text, with blanks (32, 10) between them or not");
        good(" \n\n shelves \n2\n; item\n0 7;\n", 2);
        good("shelves 2;item 0 7;", 2);
        good("shelves\n2;item\n0\n7;", 2);
        for (int sign = 0; sign < 256; sign++) {
            String text = "shelves 2" + (char) sign + ";";
            if (sign == 32 || sign == 10) {
                good(text, 1);
            } else if (sign >= '0' && sign <= '9') {
                bad(text, 8, 2);
            } else if (sign >= 'a' && sign <= 'z') {
                bad(text, 8, 1);
            } else {
                bad(text, sign == ';' ? 10 : 9, 1);
            }
        }
        for (int sign : new int[] {9, 11, 13, 0, 31, 33, 160, 255}) {
            bad("shelves" + (char) sign + "2;", 7, 1);
            bad("shelves 2;" + (char) sign, 10, 1);
            bad((char) sign + "shelves 2;", 0, 1);
        }
    }

    private static void smallLetters() {
        CHECK.says("WORDS: small letters");
        String text = "shelves 2;item 1 1;stock 0 0 1;move 0 1 from 0 1 1 to 0 1 1;";
        good(text, 4);
        for (int i = 0; i < text.length(); i++) {
            if (Character.isLetter(text.charAt(i))) {
                int start = i;
                while (start > 0 && Character.isLetter(text.charAt(start - 1))) {
                    start--;
                }
                String before = text.substring(0, i);
                String behind = text.substring(i + 1);
                bad(before + Character.toUpperCase(text.charAt(i)) + behind, start, 1);
                bad(before + (text.charAt(i) == 'q' ? 'p' : 'q') + behind, start, 1);
                bad(before + (char) (text.charAt(i) + 128) + behind, start, 1);
            }
        }
    }

    private static void digits() {
        CHECK.says("NUMBERS: 1 to 3 digits");
        good("shelves 6;", 1);
        good("shelves 06;", 1);
        good("shelves 006;", 1);
        bad("shelves 0006;", 8, 1);
        good(HEAD + "stock 0 0 999;", 3);
        bad(HEAD + "stock 0 0 1000;", 29, 1);
        bad(HEAD + "stock 0 0 0000;", 29, 1);
        bad("shelves ;", 8, 1);
        // as an int these would be 2 again
        bad("shelves 4294967298;", 8, 1);
        bad("shelves 18446744073709551618;", 8, 1);
        bad("shelves 1/;", 9, 1);
        bad("shelves 1:;", 9, 1);
    }

    private static void runs() {
        CHECK.says("A WORD, NUMBER goes on as long as small letters and digits do; what is not as told is no TOKEN");
        for (String part : new String[] {"a2", "z2", "2a", "2z", "2a2", "a2a", "2item", "0z", "9a"}) {
            bad("shelves " + part + ";", 8, 1);
        }
        for (char letter = 'a'; letter <= 'z'; letter++) {
            bad("shelves" + letter + " 2;", 0, 1);
            bad("shelves 2" + letter + ";", 8, 1);
        }
        for (char digit = '0'; digit <= '9'; digit++) {
            bad("shelves" + digit + ";", 0, 1);
            bad(HEAD + "stock" + digit + " 0 1;", 19, 1);
        }
        bad("shelves2;", 0, 1);
        bad("shelves 2;item1 1;", 10, 1);
        bad("shelves 2;item 1 1item 1 1;", 17, 1);
        bad(HEAD + "move 0 1from 0 1 1;", 26, 1);
        bad(HEAD + "move 0 1 from0 1 1;", 28, 1);
        bad(HEAD + "move 0 1 to0 1 1;", 28, 1);
        bad(HEAD + "move 0 1 from 0 1 1to 0 1 1;", 37, 1);
        bad("she lves 2;", 0, 1);
        bad("shelves 2;it\nem 1 1;", 10, 1);
        // a number with a blank in it is two
        bad(HEAD + "move 0 1 2;", 28, 1);
    }

    private static void sixHundredBytes() {
        CHECK.says("A TEXT has at most 600 bytes");
        for (int bytes : new int[] {19, 599, 600}) {
            good(HEAD + Check.blanks(bytes - HEAD.length()), 2);
        }
        for (int bytes : new int[] {601, 602, 620, 640}) {
            bad(HEAD + Check.blanks(bytes - HEAD.length()), 600, 1);
        }
        String line = "move 0 1;";
        good(HEAD + Check.blanks(600 - HEAD.length() - line.length()) + line, 3);
        bad(HEAD + Check.blanks(601 - HEAD.length() - line.length()) + line, 600, 1);
    }

    private static void shelvesLine() {
        CHECK.says("'shelves' N ;");
        good("shelves 1;", 1);
        bad("", 0, 1);
        bad("item 1 1;", 0, 1);
        bad("stock 0 0 1;", 0, 1);
        bad("move 0 1;", 0, 1);
        bad("2;", 0, 1);
        bad(";", 0, 1);
        bad("shelves;", 7, 1);
        bad("shelves 1 2;", 10, 1);
        bad("shelves 1 item 1 1;", 10, 1);
        bad("shelves 1;shelves 1;", 10, 1);
    }

    private static void linesThatMayMiss() {
        CHECK.says("{ 'item' UNITS SHARE ; } { 'stock' SHELF ITEM SUM ; } { 'move' ITEM SUM .. ; }: none, one or more");
        good("shelves 2;item 1 1;", 2);
        good("shelves 2;item 1 1;stock 0 0 1;", 3);
        good("shelves 2;item 1 1;stock 0 0 1;stock 1 0 1;", 4);
        good("shelves 2;item 1 1;move 0 1;", 3);
        good("shelves 2;item 1 1;item 1 1;stock 0 0 1;move 0 1;move 1 1;", 6);
        bad("shelves 2;item 1;", 16, 1);
        bad("shelves 2;item 1 1 1;", 19, 1);
        bad("shelves 2;item;", 14, 1);
        bad(HEAD + "stock 0 0;", 28, 1);
        bad(HEAD + "stock 0 0 1 1;", 31, 1);
        bad(HEAD + "move 0;", 25, 1);
        bad(HEAD + "move;", 23, 1);
    }

    private static void orderOfLines() {
        CHECK.says("{ 'item' .. } { 'stock' .. } { 'move' .. }: in this order");
        bad(HEAD + "stock 0 0 1;item 1 1;", 31, 1);
        bad(HEAD + "move 0 1;item 1 1;", 28, 1);
        bad(HEAD + "move 0 1;stock 0 0 1;", 28, 1);
        bad(HEAD + "stock 0 0 1;move 0 1;stock 1 0 1;", 40, 1);
        bad(HEAD + "from 0 1 1;", 19, 1);
        bad(HEAD + "to 0 1 1;", 19, 1);
        bad(HEAD + "shelves 2;", 19, 1);
    }

    private static void legsOfALine() {
        CHECK.says("[ 'from' SHELF T T ] [ 'to' SHELF T T ]");
        String[] legs = {"", " from 1 2 3", " to 1 4 5", " from 1 2 3 to 0 4 5"};
        int[][] want = {{-1, -1, -1, -1, -1, -1}, {1, 2, 3, -1, -1, -1}, {-1, -1, -1, 1, 4, 5}, {1, 2, 3, 0, 4, 5}};
        int[] whats = {10, 11, 12, 20, 21, 22};
        for (int i = 0; i < legs.length; i++) {
            RunningCount x = Check.of(HEAD + "move 0 9" + legs[i] + ";");
            for (int k = 0; k < whats.length; k++) {
                CHECK.due("move(0, " + whats[k] + ") of" + legs[i], Check.move(x, 0, whats[k]), want[i][k]);
            }
        }
        bad(HEAD + "move 0 9 to 0 1 1 from 0 1 1;", 37, 1);
        bad(HEAD + "move 0 9 to 0 1 1 to 0 1 1;", 37, 1);
        bad(HEAD + "move 0 9 from 0 1 1 from 0 1 1;", 39, 1);
        bad(HEAD + "move 0 9 from 0 1 1 to 0 1 1 to 0 1 1;", 48, 1);
        bad(HEAD + "move 0 9 from 0 1;", 36, 1);
        bad(HEAD + "move 0 9 from 0;", 34, 1);
        bad(HEAD + "move 0 9 from;", 32, 1);
        bad(HEAD + "move 0 9 to 0 1;", 34, 1);
        bad(HEAD + "move 0 9 to 0;", 32, 1);
        bad(HEAD + "move 0 9 to;", 30, 1);
    }

    private static void shelvesOneToSix() {
        CHECK.says("N 1 to 6");
        for (int n = 0; n <= 999; n += n < 12 ? 1 : 47) {
            if (n >= 1 && n <= 6) {
                good("shelves " + n + ";", 1);
                CHECK.due("now(0)", Check.of("shelves " + n + ";").now(0), n);
            } else {
                bad("shelves " + n + ";", 8, 2);
            }
        }
    }

    private static void unitsAndShare() {
        CHECK.says("UNITS 0 to 99, SHARE 0 to 99");
        for (int n : new int[] {0, 1, 98, 99}) {
            CHECK.due("UNITS " + n, Check.of("shelves 1;item " + n + " 5;").item(0, 0), n);
            CHECK.due("SHARE " + n, Check.of("shelves 1;item 5 " + n + ";").item(0, 1), n);
        }
        for (int n : new int[] {100, 101, 999}) {
            bad("shelves 1;item " + n + " 5;", 15, 2);
            bad("shelves 1;item 5 " + n + ";", 17, 2);
        }
    }

    private static void fiveItems() {
        CHECK.says("5 ITEMS at most");
        for (int n = 0; n <= 5; n++) {
            String text = "shelves 1;" + Check.repeat("item 1 1;", n);
            good(text, n + 1);
            CHECK.due("now(1)", Check.of(text).now(1), n);
        }
        bad("shelves 1;" + Check.repeat("item 1 1;", 6), 55, 3);
    }

    private static void numberedFromNought() {
        CHECK.says("SHELVES, ITEMS, MOVES are numbered from 0");
        for (int n = 1; n <= 6; n++) {
            String head = "shelves " + n + ";item 1 1;";
            for (int shelf = 0; shelf <= 7; shelf++) {
                String[] lines = {"stock " + shelf + " 0 1;", "move 0 1 from " + shelf + " 1 1;",
                    "move 0 1 to " + shelf + " 1 1;"};
                int[] places = {25, 33, 31};
                for (int i = 0; i < lines.length; i++) {
                    if (shelf < n) {
                        good(head + lines[i], 3);
                    } else {
                        bad(head + lines[i], places[i], 2);
                    }
                }
            }
        }
        for (int n = 0; n <= 5; n++) {
            String head = "shelves 1;" + Check.repeat("item 1 1;", n);
            for (int item = 0; item <= 6; item++) {
                if (item < n) {
                    good(head + "stock 0 " + item + " 1;", n + 2);
                    good(head + "move " + item + " 1;", n + 2);
                } else {
                    bad(head + "stock 0 " + item + " 1;", head.length() + 8, 2);
                    bad(head + "move " + item + " 1;", head.length() + 5, 2);
                }
            }
        }
        RunningCount x = Check.of("shelves 1;item 7 0;item 8 0;move 1 3;move 0 4;");
        CHECK.due("item(0, 0)", x.item(0, 0), 7);
        CHECK.due("item(1, 0)", x.item(1, 0), 8);
        CHECK.due("move(0, 1)", Check.move(x, 0, 1), 3);
        CHECK.due("move(1, 1)", Check.move(x, 1, 1), 4);
    }

    private static void stockSum() {
        CHECK.says("'stock': SUM 0 to 999");
        for (int sum : new int[] {0, 1, 99, 100, 998, 999}) {
            CHECK.due("SUM " + sum, Check.of(HEAD + "stock 1 0 " + sum + ";").book(1, 0, 0, 0), sum);
        }
        bad(HEAD + "stock 1 0 1000;", 29, 1);
    }

    private static void stockOnce() {
        CHECK.says("a SHELF and an ITEM once together");
        String head = "shelves 6;" + Check.repeat("item 1 1;", 5);
        good(head + allStocks(), 36);
        for (int i = 0; i < 30; i++) {
            String text = head + allStocks() + "stock " + i % 6 + " " + i / 6 + " 5;";
            bad(text, text.length() - 4, 2);
        }
        good("shelves 2;item 1 1;item 1 1;stock 0 1 5;stock 1 0 5;", 5);
        // a stock of 0 is told, too
        bad(HEAD + "stock 0 0 0;stock 0 0 0;", 39, 2);
        RunningCount x = Check.of("shelves 2;item 1 1;item 1 1;stock 0 1 5;stock 1 0 6;");
        int[][] want = {{0, 5}, {6, 0}};
        for (int shelf = 0; shelf < 2; shelf++) {
            for (int item = 0; item < 2; item++) {
                CHECK.due("book of " + shelf + ", " + item, x.book(shelf, item, 0, 0), want[shelf][item]);
            }
        }
    }

    private static String allStocks() {
        StringBuilder stocks = new StringBuilder();
        for (int i = 0; i < 30; i++) {
            stocks.append("stock ").append(i % 6).append(' ').append(i / 6).append(" 5;");
        }
        return stocks.toString();
    }

    private static void moveSum() {
        CHECK.says("'move': SUM 1 to 99");
        for (int sum : new int[] {1, 2, 98, 99}) {
            CHECK.due("SUM " + sum, Check.move(Check.of(HEAD + "move 0 " + sum + ";"), 0, 1), sum);
        }
        for (int sum : new int[] {0, 100, 101, 999}) {
            bad(HEAD + "move 0 " + sum + ";", 26, 2);
        }
    }

    private static void instants() {
        CHECK.says("T an instant 0 to 999");
        for (int t : new int[] {0, 1, 998, 999}) {
            RunningCount x = Check.of(HEAD + "move 0 1 from 0 " + t + " " + t + " to 1 " + t + " " + t + ";");
            for (int what : new int[] {11, 12, 21, 22}) {
                CHECK.due("move(0, " + what + ") of " + t, Check.move(x, 0, what), t);
            }
        }
        good(HEAD + "move 0 1 from 0 0 999 to 0 0 999;", 3);
        bad(HEAD + "move 0 1 from 0 1000 1000;", 35, 1);
        bad(HEAD + "move 0 1 from 0 0 1000;", 37, 1);
        bad(HEAD + "move 0 1 to 0 1000 1000;", 33, 1);
        bad(HEAD + "move 0 1 to 0 0 1000;", 35, 1);
    }

    private static void secondNoEarlier() {
        CHECK.says("the second one no earlier");
        int[][] spans = {{0, 0}, {5, 5}, {5, 6}, {0, 999}, {999, 999}, {6, 5}, {1, 0}, {9, 0}, {9, 8}};
        for (int[] span : spans) {
            String ends = span[0] + " " + span[1] + ";";
            if (span[0] <= span[1]) {
                good(HEAD + "move 0 1 from 0 " + ends, 3);
                good(HEAD + "move 0 1 to 0 " + ends, 3);
                good(HEAD + "move 0 1 from 0 7 8 to 0 " + ends, 3);
            } else {
                bad(HEAD + "move 0 1 from 0 " + ends, 37, 2);
                bad(HEAD + "move 0 1 to 0 " + ends, 35, 2);
                bad(HEAD + "move 0 1 from 0 7 8 to 0 " + ends, 46, 2);
            }
        }
        bad(HEAD + "move 0 1 from 0 999 998;", 39, 2);
        // of two legs the second may be earlier than the first
        good(HEAD + "move 0 1 from 0 50 60 to 0 1 2;", 3);
    }

    private static void sixteenMoves() {
        CHECK.says("16 'move' LINES at most");
        for (int n = 0; n <= 16; n++) {
            String text = HEAD + Check.repeat("move 0 1;", n);
            good(text, n + 2);
            CHECK.due("now(2)", Check.of(text).now(2), n);
        }
        bad(HEAD + Check.repeat("move 0 1;", 17), 163, 3);
    }

    private static void firstAlongTheText() {
        CHECK.says("FAULTS, the first along the text");
        bad("shelves 7;item 100 x;", 8, 2);
        bad("shelves 2;item 100 x;", 15, 2);
        bad("shelves 2;item 10 x;", 18, 1);
        bad("shelves 2;items 100;", 10, 1);
        bad("shelves 0;" + Check.repeat("item 1 1;", 6), 8, 2);
        bad("shelves 2;" + Check.repeat("item 1 1;", 6) + "?", 55, 3);
        bad("shelves 2;" + Check.repeat("item 1 1;", 5) + "stock 6 9 1;", 61, 2);
        bad("? shelves 7;", 0, 1);
        bad(HEAD + "move 5 100 from 9 9 8;", 24, 2);
        bad(HEAD + "move 0 100 from 9 9 8;", 26, 2);
        bad(HEAD + "move 0 10 from 9 9 8;", 34, 2);
        bad(HEAD + "move 0 10 from 1 9 8 to 9 9 8;", 38, 2);
    }

    private static void firstInTheList() {
        CHECK.says("of one TOKEN the one that stands first in this list");
        String five = "shelves 2;" + Check.repeat("item 1 1;", 5);
        bad(five + "stock 0 0 1;item 1 1;", 67, 1);
        bad(five + "move 0 1;item 1 1;", 64, 1);
        bad(five + "stock item 1 1;", 61, 1);
        String sixteen = HEAD + Check.repeat("move 0 1;", 16);
        bad(sixteen.substring(0, sixteen.length() - 1) + " move 0 1;", 163, 1);
        bad(HEAD + Check.repeat("move 0 1;", 16) + "stock 0 0 1;", 163, 1);
        // a number too long is no token, and where no number can come none is too large
        bad("shelves 7777;", 8, 1);
        bad("shelves 2 777;", 10, 1);
        bad("777;", 0, 1);
        bad(HEAD + "stock 0 0 1 777;", 31, 1);
        bad(HEAD + "stock 0 0 1;stock 0 0a 1;", 39, 1);
    }

    private static void tokenThatCannotCome() {
        CHECK.says("1 no TOKEN, or one that can't come (at it)");
        String[] tokens = {"shelves", "2", ";", "item", "1", "1", ";", "stock", "0", "0", "1", ";",
            "move", "0", "1", "from", "0", "1", "1", "to", "0", "1", "1", ";"};
        String before = "";
        for (int i = 0; i < tokens.length; i++) {
            bad(before + "from2 ", before.length(), 1);
            bad(before + "xyz", before.length(), 1);
            bad(before + "(", before.length(), 1);
            bad(before + "shelves", before.length() + (i == 0 ? 7 : 0), 1);
            boolean number = Character.isDigit(tokens[i].charAt(0));
            bad(before + (number ? ";" : "1"), before.length(), 1);
            before += tokens[i] + " ";
        }
        good(before, 4);
    }

    private static void theEnd() {
        CHECK.says("the end: how many bytes there are");
        String text = "shelves 2;item 1 1;stock 0 0 1;move 0 1 from 0 1 1 to 0 1 1;";
        for (int n = 0; n <= text.length(); n++) {
            String part = text.substring(0, n);
            if (part.endsWith(";")) {
                good(part, (int) part.chars().filter(sign -> sign == ';').count());
            } else if (n > 0 && Character.isLetter(text.charAt(n - 1)) && Character.isLetter(text.charAt(n))) {
                bad(part, part.lastIndexOf(part.lastIndexOf(' ') > part.lastIndexOf(';') ? ' ' : ';') + 1, 1);
            } else {
                bad(part, n, 1);
                bad(part + " \n ", n + 3, 1);
            }
        }
    }

    private static void moreThanSixHundred() {
        CHECK.says("600, if there are more and no FAULT is ahead");
        for (int bytes : new int[] {599, 600, 601, 640}) {
            bad("shelves 2" + Check.blanks(bytes - 9), Math.min(bytes, 600), 1);
            bad(Check.blanks(bytes), Math.min(bytes, 600), 1);
            bad("shelves 7;" + Check.blanks(bytes - 10), 8, 2);
            bad("shelves 2;?" + Check.blanks(bytes - 11), 10, 1);
            bad(HEAD + Check.repeat("move 0 1;", 17) + Check.blanks(bytes - 172), 163, 3);
        }
        bad(HEAD + Check.blanks(581) + "?", 600, 1);
        bad(HEAD + Check.blanks(580) + "?", 599, 1);
        bad(HEAD + Check.blanks(580) + "? ", 599, 1);
        bad(HEAD + Check.blanks(581) + "stock 9 9 9;", 600, 1);
        bad(HEAD + Check.blanks(572) + "move 0 1;;", 600, 1);
    }

    private static void tokensReadWhole() {
        CHECK.says("TOKENS that begin ahead of it are read whole");
        bad(HEAD + Check.blanks(580) + "move 0 1;", 600, 1);
        bad(HEAD + Check.blanks(578) + "move", 600, 1);
        bad(HEAD + Check.blanks(580) + "mov 0 1;", 599, 1);
        bad(HEAD + Check.blanks(577) + "mover 0 1;", 596, 1);
        bad(HEAD + Check.blanks(577) + "move1", 596, 1);
        bad(HEAD + Check.blanks(573) + "move 0 99;", 600, 1);
        bad(HEAD + Check.blanks(573) + "move 0 100;", 599, 2);
        bad(HEAD + Check.blanks(573) + "move 0 1000;", 599, 1);
        bad(HEAD + Check.blanks(573) + "move 0 1a", 599, 1);
        bad(HEAD + Check.blanks(574) + "move 0 100;", 600, 1);
        bad(HEAD + Check.repeat("move 0 1;", 16) + Check.blanks(436) + "move", 599, 3);
        bad(HEAD + Check.repeat("move 0 1;", 16) + Check.blanks(437) + "move", 600, 1);
        bad(Check.blanks(599) + Check.repeat("9", 41), 599, 1);
        bad(Check.blanks(598) + "shelves", 600, 1);
    }

    private static void numberNotAsTold() {
        CHECK.says("2 a NUMBER that is not as told (at it)");
        bad("  shelves  \n0;", 12, 2);
        bad("shelves 2; item 1  100;", 19, 2);
        bad("shelves 2;item 1 1; stock  2 0 1;", 27, 2);
        bad("shelves 2;item 1 1; stock 1  1 1;", 29, 2);
        bad("shelves 2;stock 0 0 1;", 18, 2);
        bad("shelves 2;move 0 1;", 15, 2);
        bad("shelves 2;item 1 1;move 0  100;", 27, 2);
        bad("shelves 2;item 1 1;move 0 1 from  2 0 0;", 34, 2);
        bad("shelves 2;item 1 1;move 0 1 to  2 0 0;", 32, 2);
        bad("shelves 2;item 1 1;move 0 1 to 1 5  4;", 36, 2);
    }

    private static void itemOfASecondStock() {
        CHECK.says("the ITEM of a second 'stock' for one SHELF (at it)");
        bad(HEAD + "stock 0 0 1;stock 0 0 1;", 39, 2);
        bad(HEAD + "stock 1 0 1;stock 0 0 1;stock  1  0 1;", 53, 2);
        // at the ITEM, not at what comes behind it
        bad(HEAD + "stock 0 0 1;stock 0 0 x", 39, 2);
        bad(HEAD + "stock 0 0 1;stock 0 0", 39, 2);
        good(HEAD + "stock 0 0 1;stock 1 0 1;", 4);
        good("shelves 2;item 1 1;item 1 1;stock 0 0 1;stock 0 1 1;", 5);
    }

    private static void oneMoreThanTold() {
        CHECK.says("3 one more 'item', 'move' than told (at its WORD)");
        String five = "shelves 2;" + Check.repeat("item 1 1;", 5);
        bad(five + " \n item", 58, 3);
        bad(five + "item 100 x;", 55, 3);
        good(five + "stock 0 4 1;move 4 1;", 8);
        String sixteen = HEAD + Check.repeat("move 0 1;", 16);
        bad(sixteen + " \n move", 166, 3);
        bad(sixteen + "move 9 0 x", 163, 3);
        good(sixteen + " \n ", 18);
    }
}
