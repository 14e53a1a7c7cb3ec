/** Promises 19 to 21: moves, leg, narrow. */
public final class MoveTest {
    private static final int NONE = RunningCount.NONE;
    private static final Check CHECK = new Check("MoveTest");

    private MoveTest() {
    }

    public static void main(String[] args) {
        moves();
        fortyMoves();
        legs();
        wrongLegs();
        narrow();
        wrongNarrow();
        CHECK.end();
    }

    private static void moves() {
        RunningCount x = Check.of("shelves 1;item 0 0;item 0 0;move 0 5 to 0 1 2;");
        CHECK.due("moves(1, 1)", x.moves(1, 1), 1);
        CHECK.due("moves(0, 99)", x.moves(0, 99), 2);
        int[][] wrong = {{2, 1}, {-1, 1}, {0, 0}, {0, 100}, {0, -5}, {Integer.MAX_VALUE, 1}};
        for (int[] c : wrong) {
            CHECK.due("wrong moves", x.moves(c[0], c[1]), NONE);
        }
        CHECK.due("how many", x.now(2), 3);
        CHECK.due("how many to undo", x.now(6), 2);
        int[] whats = {0, 1, 10, 11, 12, 20, 21, 22};
        int[] want = {1, 1, NONE, NONE, NONE, NONE, NONE, NONE};
        for (int i = 0; i < whats.length; i++) {
            CHECK.due("move(1, " + whats[i] + ")", Check.move(x, 1, whats[i]), want[i]);
        }
    }

    private static void fortyMoves() {
        RunningCount x = Check.of("shelves 1;item 0 0;" + Check.repeat("move 0 1;", 16));
        for (int i = 16; i < 40; i++) {
            CHECK.due("moves " + i, x.moves(0, 2), i);
        }
        CHECK.due("one more", x.moves(0, 2), -2);
        CHECK.due("NONE stands first", x.moves(0, 0), NONE);
        CHECK.due("NONE stands first", x.moves(1, 1), NONE);
        CHECK.due("how many", x.now(2), 40);
        CHECK.due("the last one has a leg", x.leg(39, 1, 0, 999, 999), true);
        CHECK.due("it comes", x.book(0, 0, 999, 0), 2);
        x.undo();
        x.undo();
        CHECK.due("again", x.moves(0, 3), 39);
        CHECK.due("without legs", Check.move(x, 39, 20), NONE);
    }

    private static void legs() {
        RunningCount x = Check.of("shelves 2;item 0 0;move 0 5 to 0 1 2;move 0 6;");
        CHECK.due("leg(0, 0, ..)", x.leg(0, 0, 1, 0, 999), true);
        CHECK.due("leg(0, 0, ..) again", x.leg(0, 0, 1, 0, 999), false);
        CHECK.due("leg(0, 1, ..) is told", x.leg(0, 1, 0, 5, 5), false);
        CHECK.due("leg(1, 1, ..)", x.leg(1, 1, 0, 7, 7), true);
        CHECK.due("leg(1, 0, ..)", x.leg(1, 0, 0, 999, 999), true);
        CHECK.due("move(0, 10)", Check.move(x, 0, 10), 1);
        CHECK.due("move(0, 12)", Check.move(x, 0, 12), 999);
        CHECK.due("move(0, 22)", Check.move(x, 0, 22), 2);
        CHECK.due("move(1, 21)", Check.move(x, 1, 21), 7);
        CHECK.due("move(1, 11)", Check.move(x, 1, 11), 999);
        CHECK.due("the book", x.book(1, 0, 5, 1), -5);
    }

    private static void wrongLegs() {
        RunningCount x = Check.of("shelves 2;item 0 0;move 0 5;");
        int[][] wrong = {{1, 0, 0, 0, 0}, {-1, 0, 0, 0, 0}, {0, 2, 0, 0, 0}, {0, -1, 0, 0, 0}, {0, 0, 2, 0, 0},
            {0, 0, -1, 0, 0}, {0, 0, 0, 5, 4}, {0, 0, 0, -1, 4}, {0, 0, 0, 0, 1000}, {0, 1, 0, 1000, 1000},
            {Integer.MAX_VALUE, 0, 0, 0, 0}, {0, Integer.MIN_VALUE, 0, 0, 0}};
        for (int[] c : wrong) {
            CHECK.due("wrong leg", x.leg(c[0], c[1], c[2], c[3], c[4]), false);
        }
        CHECK.due("nothing came", Check.move(x, 0, 10) + Check.move(x, 0, 20), -2);
        CHECK.due("nothing to undo", x.now(6), 0);
    }

    private static void narrow() {
        RunningCount x = Check.of("shelves 2;item 0 0;move 0 5 from 0 10 90 to 1 20 40;");
        CHECK.due("as it is", x.narrow(0, 0, 10, 90), 0);
        CHECK.due("that was done", x.now(6), 1);
        CHECK.due("later", x.narrow(0, 0, 30, 90), 20);
        CHECK.due("sooner", x.narrow(0, 0, 30, 80), 10);
        CHECK.due("both", x.narrow(0, 0, 31, 79), 2);
        CHECK.due("to one instant", x.narrow(0, 0, 79, 79), 48);
        CHECK.due("move(0, 11)", Check.move(x, 0, 11), 79);
        CHECK.due("move(0, 12)", Check.move(x, 0, 12), 79);
        CHECK.due("move(0, 21)", Check.move(x, 0, 21), 20);
        CHECK.due("leg 1", x.narrow(0, 1, 20, 21), 19);
        CHECK.due("move(0, 22)", Check.move(x, 0, 22), 21);
    }

    private static void wrongNarrow() {
        RunningCount x = Check.of("shelves 2;item 0 0;move 0 5 from 0 10 90;");
        int[][] wrong = {{0, 0, 9, 90}, {0, 0, 10, 91}, {0, 0, 50, 49}, {0, 0, 91, 91}, {0, 0, 9, 9}, {0, 1, 10, 90},
            {0, 1, NONE, NONE}, {0, 2, 10, 90}, {0, -1, 10, 90}, {1, 0, 10, 90}, {-1, 0, 10, 90},
            {0, 0, Integer.MIN_VALUE, Integer.MAX_VALUE}, {0, 0, Integer.MAX_VALUE, Integer.MIN_VALUE}};
        for (int[] c : wrong) {
            CHECK.due("wrong narrow", x.narrow(c[0], c[1], c[2], c[3]), NONE);
        }
        CHECK.due("the span stays", Check.move(x, 0, 12) - Check.move(x, 0, 11), 80);
        CHECK.due("nothing to undo", x.now(6), 0);
    }
}
