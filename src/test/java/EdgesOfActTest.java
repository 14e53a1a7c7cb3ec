import java.util.ArrayList;
import java.util.List;

/** Promises 19 to 21 and 25, a new TEXT and refused calls, sentence by sentence at their boundaries. */
public final class EdgesOfActTest {
    private static final int NONE = RunningCount.NONE;
    private static final Check CHECK = new Check("EdgesOfActTest");

    private interface Call {
        long on(RunningCount x);
    }

    /** A call with the answer that is due. */
    private record Done(String told, long want, Call call) {
    }

    private EdgesOfActTest() {
    }

    public static void main(String[] args) {
        movesWithoutLegs();
        movesNone();
        movesForty();
        legIsThere();
        legFalse();
        legThatIsThere();
        legInstants();
        narrowShorter();
        narrowAsItIs();
        narrowWithin();
        narrowNoSuchLeg();
        undoEachKind();
        undoTen();
        undoNone();
        undoOfDropAndPost();
        undoThenOtherActs();
        newText();
        refusedCalls();
        refusedWhenFull();
        CHECK.end();
    }

    private static void movesWithoutLegs() {
        CHECK.says("A MOVE without LEGS (SUM 1 to 99): its number.");
        RunningCount x = Check.of("shelves 2;item 0 0;item 0 0;move 0 5 from 0 1 1 to 1 2 2;");
        int[][] made = {{0, 1}, {1, 99}, {1, 1}, {0, 99}};
        for (int i = 0; i < made.length; i++) {
            CHECK.due("moves", x.moves(made[i][0], made[i][1]), i + 1);
            int[] whats = {0, 1, 10, 11, 12, 20, 21, 22};
            int[] want = {made[i][0], made[i][1], NONE, NONE, NONE, NONE, NONE, NONE};
            for (int k = 0; k < whats.length; k++) {
                CHECK.due("move(" + (i + 1) + ", " + whats[k] + ")", Check.move(x, i + 1, whats[k]), want[k]);
            }
        }
        CHECK.due("it is in no book", x.book(1, 1, 999, 0), 0);
        CHECK.due("the first of a text without moves", Check.of("shelves 1;item 0 0;").moves(0, 1), 0);
        // the legs of an undone move are gone
        x.leg(4, 0, 0, 3, 4);
        x.leg(4, 1, 1, 3, 4);
        x.undo();
        x.undo();
        x.undo();
        CHECK.due("moves", x.moves(0, 7), 4);
        CHECK.due("LEG 0", Check.move(x, 4, 10), NONE);
        CHECK.due("LEG 1", Check.move(x, 4, 20), NONE);
    }

    private static void movesNone() {
        CHECK.says("moves: NONE: no such ITEM, another SUM");
        RunningCount x = Check.of("shelves 2;item 0 0;item 0 0;");
        for (int item : new int[] {-1, 2, 4, 5, Integer.MIN_VALUE, Integer.MAX_VALUE}) {
            CHECK.due("moves(" + item + ", 5)", x.moves(item, 5), NONE);
        }
        for (int sum : new int[] {0, -1, 100, 101, Integer.MIN_VALUE, Integer.MAX_VALUE}) {
            CHECK.due("moves(0, " + sum + ")", x.moves(0, sum), NONE);
        }
        CHECK.due("now(2)", x.now(2), 0);
        CHECK.due("of a new object", new RunningCount().moves(0, 1), NONE);
    }

    private static void movesForty() {
        CHECK.says("The first that is so: .. -2: there are 40.");
        for (int told : new int[] {0, 1, 16}) {
            RunningCount x = Check.of("shelves 1;item 0 0;" + Check.repeat("move 0 1;", told));
            for (int move = told; move < 40; move++) {
                CHECK.due("moves " + move, x.moves(0, 2), move);
            }
            CHECK.due("one more", x.moves(0, 2), -2);
            CHECK.due("NONE ahead of -2: the item", x.moves(1, 2), NONE);
            CHECK.due("NONE ahead of -2: the sum", x.moves(0, 0), NONE);
            CHECK.due("now(2)", x.now(2), 40);
            CHECK.due("the last", Check.move(x, 39, 1), 2);
            CHECK.due("its leg", x.leg(39, 1, 0, 1, 1), true);
            x.undo();
            x.undo();
            CHECK.due("39", x.moves(0, 3), 39);
            CHECK.due("40 again", x.moves(0, 3), -2);
        }
    }

    private static void legIsThere() {
        CHECK.says("LEG 0 or 1 of a MOVE, that is not there, is there: at a SHELF, EARLY to LATE: true.");
        RunningCount x = Check.of("shelves 6;item 0 0;move 0 5 from 5 10 20;move 0 6;");
        CHECK.due("leg(0, 1, ..)", x.leg(0, 1, 5, 999, 999), true);
        CHECK.due("leg(1, 0, ..)", x.leg(1, 0, 0, 0, 0), true);
        CHECK.due("leg(1, 1, ..)", x.leg(1, 1, 0, 0, 999), true);
        int[][] want = {{5, 10, 20, 5, 999, 999}, {0, 0, 0, 0, 0, 999}};
        int[] whats = {10, 11, 12, 20, 21, 22};
        for (int move = 0; move < 2; move++) {
            for (int i = 0; i < whats.length; i++) {
                CHECK.due("move(" + move + ", " + whats[i] + ")", Check.move(x, move, whats[i]), want[move][i]);
            }
        }
        CHECK.due("the book", x.book(5, 0, 999, 0), 0);
        CHECK.due("the book", x.book(5, 0, 998, 0), -5);
    }

    private static void legFalse() {
        CHECK.says("leg: False: no such ones");
        RunningCount x = Check.of("shelves 2;item 0 0;move 0 5;move 0 6;");
        for (int move : new int[] {-1, 2, 39, 40, Integer.MIN_VALUE, Integer.MAX_VALUE, 1 << 30, 1 << 31}) {
            CHECK.due("leg(" + move + ", 0, ..)", x.leg(move, 0, 0, 1, 2), false);
            CHECK.due("leg(" + move + ", 1, ..)", x.leg(move, 1, 0, 1, 2), false);
        }
        for (int leg : new int[] {-1, 2, 3, Integer.MIN_VALUE, Integer.MAX_VALUE}) {
            CHECK.due("leg(0, " + leg + ", ..)", x.leg(0, leg, 0, 1, 2), false);
            CHECK.due("leg(1, " + leg + ", ..)", x.leg(1, leg, 0, 1, 2), false);
        }
        for (int shelf : new int[] {-1, 2, 5, 6, Integer.MIN_VALUE, Integer.MAX_VALUE}) {
            CHECK.due("leg(0, 0, " + shelf + ", ..)", x.leg(0, 0, shelf, 1, 2), false);
        }
        for (int move = 0; move < 2; move++) {
            CHECK.due("LEG 0", Check.move(x, move, 10), NONE);
            CHECK.due("LEG 1", Check.move(x, move, 20), NONE);
        }
        CHECK.due("of a new object", new RunningCount().leg(0, 0, 0, 0, 0), false);
    }

    private static void legThatIsThere() {
        CHECK.says("leg: False: it is there");
        RunningCount x = Check.of("shelves 2;item 0 0;move 0 5 from 0 10 20;move 0 5 to 0 10 20;");
        CHECK.due("told from", x.leg(0, 0, 1, 1, 2), false);
        CHECK.due("told to", x.leg(1, 1, 1, 1, 2), false);
        CHECK.due("the other", x.leg(0, 1, 1, 1, 2), true);
        CHECK.due("now it is there", x.leg(0, 1, 1, 1, 2), false);
        CHECK.due("move(0, 10)", Check.move(x, 0, 10), 0);
        CHECK.due("move(0, 11)", Check.move(x, 0, 11), 10);
        x.undo();
        CHECK.due("undone", x.leg(0, 1, 0, 3, 4), true);
        CHECK.due("move(0, 21)", Check.move(x, 0, 21), 3);
    }

    private static void legInstants() {
        CHECK.says("leg: False: instants not as told");
        int[][] good = {{0, 0}, {0, 999}, {999, 999}, {5, 5}, {5, 6}};
        int[][] wrong = {{-1, 0}, {-1, -1}, {0, 1000}, {1000, 1000}, {6, 5}, {999, 0}, {1, 0}, {0, Integer.MAX_VALUE},
            {Integer.MIN_VALUE, 0}, {Integer.MAX_VALUE, Integer.MIN_VALUE}, {Integer.MIN_VALUE, Integer.MAX_VALUE}};
        for (int leg = 0; leg < 2; leg++) {
            for (int[] span : good) {
                RunningCount x = Check.of("shelves 1;item 0 0;move 0 5;");
                CHECK.due(span[0] + " to " + span[1], x.leg(0, leg, 0, span[0], span[1]), true);
            }
            RunningCount y = Check.of("shelves 1;item 0 0;move 0 5;");
            for (int[] span : wrong) {
                CHECK.due(span[0] + " to " + span[1], y.leg(0, leg, 0, span[0], span[1]), false);
            }
        }
    }

    private static void narrowShorter() {
        CHECK.says("The span of a LEG is made narrower: EARLY and LATE are so: by how much it is shorter.");
        for (int leg = 0; leg < 2; leg++) {
            RunningCount x = Check.of("shelves 2;item 0 0;move 0 5 from 0 0 999 to 1 0 999;");
            int early = 11 + 10 * leg;
            CHECK.due("EARLY one later", x.narrow(0, leg, 1, 999), 1);
            CHECK.due("LATE one sooner", x.narrow(0, leg, 1, 998), 1);
            CHECK.due("both", x.narrow(0, leg, 3, 990), 10);
            CHECK.due("EARLY", Check.move(x, 0, early), 3);
            CHECK.due("LATE", Check.move(x, 0, early + 1), 990);
            CHECK.due("the other leg's EARLY", Check.move(x, 0, 32 - early), 0);
            CHECK.due("the other leg's LATE", Check.move(x, 0, 33 - early), 999);
            CHECK.due("to its last instant", x.narrow(0, leg, 990, 990), 987);
            CHECK.due("the SHELF stays", Check.move(x, 0, early - 1), leg);
        }
        RunningCount y = Check.of("shelves 2;item 0 0;move 0 5 from 0 0 999;");
        CHECK.due("to its first instant", y.narrow(0, 0, 0, 0), 999);
        for (int move = 1; move < 40; move++) {
            y.moves(0, 1);
            y.leg(move, 0, 0, 10, 20);
            y.leg(move, 1, 0, 30, 40);
            CHECK.due("LEG 0 of " + move, y.narrow(move, 0, 11, 18), 3);
            CHECK.due("LEG 1 of " + move, y.narrow(move, 1, 32, 39), 3);
            int[] want = {11, 18, 32, 39};
            int[] whats = {11, 12, 21, 22};
            for (int i = 0; i < whats.length; i++) {
                CHECK.due("move(" + move + ", " + whats[i] + ")", Check.move(y, move, whats[i]), want[i]);
            }
        }
    }

    private static void narrowAsItIs() {
        CHECK.says("(or stays as it is)");
        RunningCount x = Check.of("shelves 2;item 0 0;move 0 5 from 0 10 20 to 1 7 7;");
        CHECK.due("as it is", x.narrow(0, 0, 10, 20), 0);
        CHECK.due("one instant as it is", x.narrow(0, 1, 7, 7), 0);
        CHECK.due("both were done", x.now(6), 2);
        CHECK.due("undo", x.undo(), 1);
        CHECK.due("undo", x.undo(), 0);
        CHECK.due("EARLY", Check.move(x, 0, 11), 10);
        CHECK.due("LATE", Check.move(x, 0, 12), 20);
    }

    private static void narrowWithin() {
        CHECK.says("both within what they were .. NONE: .. not so");
        RunningCount x = Check.of("shelves 2;item 0 0;move 0 5 from 0 10 20;");
        int[][] wrong = {{9, 20}, {10, 21}, {9, 21}, {9, 9}, {21, 21}, {9, 15}, {15, 21}, {20, 21}, {16, 15}, {20, 10},
            {-1, -1}, {0, 0}, {999, 999}, {Integer.MIN_VALUE, 20}, {10, Integer.MAX_VALUE},
            {Integer.MAX_VALUE, Integer.MIN_VALUE}, {Integer.MIN_VALUE, Integer.MAX_VALUE}, {15, Integer.MIN_VALUE},
            {Integer.MAX_VALUE, 15}};
        for (int[] span : wrong) {
            CHECK.due("narrow to " + span[0] + ", " + span[1], x.narrow(0, 0, span[0], span[1]), NONE);
            CHECK.due("EARLY", Check.move(x, 0, 11), 10);
            CHECK.due("LATE", Check.move(x, 0, 12), 20);
        }
        CHECK.due("now(6)", x.now(6), 0);
        x.narrow(0, 0, 12, 18);
        CHECK.due("as it was", x.narrow(0, 0, 10, 20), NONE);
        CHECK.due("EARLY as it was", x.narrow(0, 0, 11, 18), NONE);
        CHECK.due("LATE as it was", x.narrow(0, 0, 12, 19), NONE);
        x.undo();
        CHECK.due("undone", x.narrow(0, 0, 11, 19), 2);
    }

    private static void narrowNoSuchLeg() {
        CHECK.says("narrow: NONE: no such LEG");
        RunningCount x = Check.of("shelves 2;item 0 0;move 0 5 from 0 10 20;move 0 5 to 0 10 20;move 0 5;");
        CHECK.due("LEG 1 is not there", x.narrow(0, 1, 10, 20), NONE);
        CHECK.due("LEG 0 is not there", x.narrow(1, 0, 10, 20), NONE);
        CHECK.due("neither is there", x.narrow(2, 0, NONE, NONE), NONE);
        CHECK.due("neither is there", x.narrow(2, 1, NONE, NONE), NONE);
        for (int move : new int[] {-1, 3, 39, 40, Integer.MIN_VALUE, Integer.MAX_VALUE, 1 << 30, 1 << 31}) {
            CHECK.due("narrow(" + move + ", 0, ..)", x.narrow(move, 0, 10, 20), NONE);
            CHECK.due("narrow(" + move + ", 1, ..)", x.narrow(move, 1, 10, 20), NONE);
        }
        for (int leg : new int[] {-2, -1, 2, 3, Integer.MIN_VALUE, Integer.MAX_VALUE}) {
            CHECK.due("narrow(0, " + leg + ", ..)", x.narrow(0, leg, 10, 20), NONE);
            CHECK.due("narrow(1, " + leg + ", ..)", x.narrow(1, leg, 10, 20), NONE);
        }
        x.moves(0, 5);
        x.leg(3, 0, 0, 10, 20);
        x.undo();
        CHECK.due("the leg was undone", x.narrow(3, 0, 10, 20), NONE);
        CHECK.due("of a new object", new RunningCount().narrow(0, 0, 0, 0), NONE);
    }

    private static void undoEachKind() {
        CHECK.says("The latest moves(), leg(), narrow(), counts(), post(), drop() that was done is undone");
        List<Done> acts = List.of(
            new Done("moves(1, 9)", 5, x -> x.moves(1, 9)),
            new Done("leg(4, 0, 2, 5, 6)", 1, x -> x.leg(4, 0, 2, 5, 6) ? 1 : 0),
            new Done("leg(3, 1, 2, 5, 6)", 1, x -> x.leg(3, 1, 2, 5, 6) ? 1 : 0),
            new Done("narrow(0, 1, 160, 170)", 90, x -> x.narrow(0, 1, 160, 170)),
            new Done("narrow(1, 0, 120, 180)", 0, x -> x.narrow(1, 0, 120, 180)),
            new Done("counts(2, 1, 77, 5, 1)", 4, x -> x.counts(2, 1, 77, 5, 1)),
            new Done("post(2, 0)", 1, x -> x.post(2, 0)),
            new Done("drop(1)", 1, x -> x.drop(1) ? 1 : 0),
            new Done("drop(3)", 1, x -> x.drop(3) ? 1 : 0));
        for (Done act : acts) {
            // ten acts are kept: two are undone first, so that one more puts none out
            RunningCount x = Check.busy();
            RunningCount twin = Check.busy();
            for (int i = 0; i < 2; i++) {
                x.undo();
                twin.undo();
            }
            CHECK.due(act.told, act.call.on(x), act.want);
            CHECK.due("now(6) behind " + act.told, x.now(6), 9);
            CHECK.due("undo of " + act.told, x.undo(), 8);
            CHECK.same(act.told, x, twin);
        }
    }

    private static void undoTen() {
        CHECK.says("how many more can be (10 at most are kept)");
        for (int acts : new int[] {1, 9, 10, 11, 20, 25}) {
            RunningCount x = Check.of("shelves 1;item 0 0;");
            for (int i = 0; i < acts; i++) {
                x.moves(0, i + 1);
                CHECK.due("now(6)", x.now(6), Math.min(i + 1, 10));
            }
            int kept = Math.min(acts, 10);
            for (int more = kept - 1; more >= 0; more--) {
                CHECK.due("undo of " + acts, x.undo(), more);
                CHECK.due("now(6)", x.now(6), more);
                CHECK.due("now(2)", x.now(2), acts - kept + more);
            }
            CHECK.due("no more", x.undo(), NONE);
            CHECK.due("now(2)", x.now(2), acts - kept);
        }
    }

    private static void undoNone() {
        CHECK.says("undo: NONE: none is.");
        RunningCount x = new RunningCount();
        CHECK.due("of a new object", x.undo(), NONE);
        CHECK.due("once more", x.undo(), NONE);
        Check.tell(x, "shelves 2;item 0 0;move 0 5 from 0 10 20;");
        CHECK.due("of a new text", x.undo(), NONE);
        CHECK.due("the text's move stays", x.now(2), 1);
        x.moves(0, 1);
        CHECK.due("one", x.undo(), 0);
        CHECK.due("none", x.undo(), NONE);
        CHECK.due("an undo is not undone", x.now(2), 1);
        CHECK.due("now(6)", x.now(6), 0);
    }

    private static void undoOfDropAndPost() {
        CHECK.says("undo: a count that was dropped has its number again, counts that were posted are open again");
        RunningCount x = Check.of("shelves 2;item 0 0;stock 0 0 100;");
        x.counts(0, 0, 10, 100, 0);
        x.counts(1, 0, 44, 555, 3);
        x.counts(0, 0, 20, 150, 1);
        x.post(0, 0);
        x.counts(0, 0, 30, 152, 2);
        x.counts(0, 0, 40, 151, 3);
        String before = Check.all(x);
        CHECK.due("drop in the midst", x.drop(1), true);
        CHECK.due("post of three", x.post(0, 0), 51);
        CHECK.due("open", x.now(4), 0);
        CHECK.due("undo the post", x.undo(), 7);
        CHECK.due("open", x.now(4), 3);
        CHECK.due("the one posted ahead stays posted", Check.count(x, 0, 5), 1);
        CHECK.due("undo the drop", x.undo(), 6);
        CHECK.due("as it was", before.equals(Check.all(x)), true);
        CHECK.due("its number", Check.count(x, 1, 3), 555);
        RunningCount y = Check.of("shelves 4;item 9 0;item 9 0;item 9 0;");
        y.counts(3, 2, 44, 555, 3);
        y.counts(2, 1, 1, 7, 1);
        y.post(2, 1);
        CHECK.due("drop ahead of a posted one", y.drop(0), true);
        CHECK.due("undo the drop", y.undo(), 3);
        int[][] want = {{3, 2, 44, 555, 3, 0, 9}, {2, 1, 1, 7, 1, 1, 9}};
        for (int count = 0; count < 2; count++) {
            for (int what = 0; what < 7; what++) {
                CHECK.due("count(" + count + ", " + what + ")", Check.count(y, count, what), want[count][what]);
            }
        }
    }

    private static void undoThenOtherActs() {
        CHECK.says("undo, then acts, then undo: the acts that stand are undone, the latest first");
        RunningCount x = Check.of("shelves 1;item 0 0;");
        for (int i = 0; i < 12; i++) {
            x.moves(0, 10 + i);
        }
        for (int i = 0; i < 4; i++) {
            x.undo();
        }
        x.moves(0, 50);
        x.leg(8, 0, 0, 1, 2);
        x.narrow(8, 0, 2, 2);
        CHECK.due("now(6)", x.now(6), 9);
        CHECK.due("undo narrow", x.undo(), 8);
        CHECK.due("EARLY", Check.move(x, 8, 11), 1);
        CHECK.due("undo leg", x.undo(), 7);
        CHECK.due("SHELF", Check.move(x, 8, 10), NONE);
        CHECK.due("undo moves", x.undo(), 6);
        CHECK.due("undo moves", x.undo(), 5);
        CHECK.due("the last that stands", Check.move(x, x.now(2) - 1, 1), 16);
        for (int more = 4; more >= 0; more--) {
            CHECK.due("undo", x.undo(), more);
        }
        CHECK.due("no more", x.undo(), NONE);
        CHECK.due("now(2)", x.now(2), 2);
    }

    private static void newText() {
        CHECK.says("A new TEXT: no COUNTS, no ADJUSTMENTS, nothing can be undone.");
        String[] texts = {"shelves 1;", "shelves 3;item 2 10;item 0 0;stock 0 0 50;stock 1 1 20;"
                + "move 0 10 from 0 100 200 to 1 150 250;move 0 5 from 0 120 180;move 1 7 to 1 300 310;move 1 3;",
            "shelves 6;item 0 0;", "shelves 1;item 9 9;item 8 8;item 7 7;move 2 5;"};
        for (String text : texts) {
            RunningCount x = Check.busy();
            Check.tell(x, text);
            for (int what = 3; what < 8; what++) {
                CHECK.due("now(" + what + ")", x.now(what), 0);
            }
            CHECK.due("count(0, 0)", Check.count(x, 0, 0), Check.THROWS);
            CHECK.due("adjusted(0, 0)", x.adjusted(0, 0), Check.NO_SUM);
            CHECK.same("text " + text, x, Check.of(text));
        }
        // rows that older texts have filled
        RunningCount y = Check.busy();
        for (int i = 0; i < 3; i++) {
            Check.tell(y, texts[1]);
            CHECK.same("the same text", y, Check.of(texts[1]));
            CHECK.due("a count", y.counts(0, 0, 150, 47, 0), 0);
            CHECK.due("it is open", Check.count(y, 0, 5), 0);
            CHECK.due("now(4)", y.now(4), 1);
            CHECK.due("a move", y.moves(1, 9), 4);
            CHECK.due("without LEG 0", Check.move(y, 4, 10), NONE);
            CHECK.due("without LEG 1", Check.move(y, 4, 20), NONE);
            CHECK.due("post", y.post(0, 0), 0);
            Check.tell(y, texts[i]);
            CHECK.same("another text", y, Check.of(texts[i]));
        }
    }

    private static List<Done> refused() {
        int no = Check.NO_SUM;
        List<Done> calls = new ArrayList<>();
        calls.add(new Done("end(-1)", 0, x -> x.end(-1) ? 1 : 0));
        calls.add(new Done("end(21)", 0, x -> x.end(21) ? 1 : 0));
        calls.add(new Done("now(8)", NONE, x -> x.now(8)));
        calls.add(new Done("item(2, 0)", NONE, x -> x.item(2, 0)));
        calls.add(new Done("move(5, 0)", Check.THROWS, x -> Check.move(x, 5, 0)));
        calls.add(new Done("move(0, 2)", Check.THROWS, x -> Check.move(x, 0, 2)));
        calls.add(new Done("book(3, 0, 0, 0)", no, x -> x.book(3, 0, 0, 0)));
        calls.add(new Done("transit(2, 0, 0)", NONE, x -> x.transit(2, 0, 0)));
        calls.add(new Done("below(3, 0)", NONE, x -> x.below(3, 0)));
        calls.add(new Done("count(4, 0)", Check.THROWS, x -> Check.count(x, 4, 0)));
        calls.add(new Done("count(0, 7)", Check.THROWS, x -> Check.count(x, 0, 7)));
        calls.add(new Done("difference(4)", no, x -> x.difference(4)));
        calls.add(new Done("share(4)", no, x -> x.share(4)));
        calls.add(new Done("chosen(3, 0)", NONE, x -> x.chosen(3, 0)));
        calls.add(new Done("explained(4, 0)", NONE, x -> x.explained(4, 0)));
        calls.add(new Done("adjusted(1, 0)", no, x -> x.adjusted(1, 0)));
        calls.add(new Done("moves(2, 1)", NONE, x -> x.moves(2, 1)));
        calls.add(new Done("moves(0, 100)", NONE, x -> x.moves(0, 100)));
        calls.add(new Done("leg(5, 0, 0, 1, 2)", 0, x -> x.leg(5, 0, 0, 1, 2) ? 1 : 0));
        calls.add(new Done("leg(3, 2, 0, 1, 2)", 0, x -> x.leg(3, 2, 0, 1, 2) ? 1 : 0));
        calls.add(new Done("leg(3, 0, 3, 1, 2)", 0, x -> x.leg(3, 0, 3, 1, 2) ? 1 : 0));
        calls.add(new Done("leg(3, 0, 0, 2, 1)", 0, x -> x.leg(3, 0, 0, 2, 1) ? 1 : 0));
        calls.add(new Done("leg(0, 0, 1, 1, 2)", 0, x -> x.leg(0, 0, 1, 1, 2) ? 1 : 0));
        calls.add(new Done("narrow(0, 0, 109, 190)", NONE, x -> x.narrow(0, 0, 109, 190)));
        calls.add(new Done("narrow(0, 0, 110, 191)", NONE, x -> x.narrow(0, 0, 110, 191)));
        calls.add(new Done("narrow(0, 0, 150, 149)", NONE, x -> x.narrow(0, 0, 150, 149)));
        calls.add(new Done("narrow(3, 0, 5, 5)", NONE, x -> x.narrow(3, 0, 5, 5)));
        calls.add(new Done("counts(0, 0, 261, 10000, 0)", NONE, x -> x.counts(0, 0, 261, 10000, 0)));
        calls.add(new Done("counts(0, 0, 260, 0, 0)", -2, x -> x.counts(0, 0, 260, 0, 0)));
        calls.add(new Done("counts(0, 0, 261, 0, 1)", -3, x -> x.counts(0, 0, 261, 0, 1)));
        calls.add(new Done("counts(0, 0, 149, 0, 1)", -4, x -> x.counts(0, 0, 149, 0, 1)));
        calls.add(new Done("post(0, 0)", no, x -> x.post(0, 0)));
        calls.add(new Done("post(2, 1)", no, x -> x.post(2, 1)));
        calls.add(new Done("post(3, 0)", no, x -> x.post(3, 0)));
        calls.add(new Done("drop(0)", 0, x -> x.drop(0) ? 1 : 0));
        calls.add(new Done("drop(4)", 0, x -> x.drop(4) ? 1 : 0));
        return calls;
    }

    private static void refusedCalls() {
        CHECK.says("A refused call, one that throws changes nothing.");
        for (Done refused : refused()) {
            RunningCount x = Check.busy();
            RunningCount twin = Check.busy();
            x.feed(1, 2, 3, 4, 5);
            twin.feed(1, 2, 3, 4, 5);
            CHECK.due(refused.told, refused.call.on(x), refused.want);
            CHECK.due("fault() behind " + refused.told, x.fault(), 0);
            CHECK.same(refused.told, x, twin);
        }
    }

    private static RunningCount full() {
        RunningCount x = Check.of("shelves 1;item 0 0;item 0 0;" + Check.repeat("move 0 1 to 0 1 1;", 16));
        for (int i = 16; i < 40; i++) {
            x.moves(0, 1);
        }
        for (int i = 0; i < 40; i++) {
            x.counts(0, 0, 10 + i, 16, i % 4);
        }
        for (int i = 0; i < 32; i++) {
            x.feed(0, 0, 0, 0, 0);
        }
        return x;
    }

    private static void refusedWhenFull() {
        CHECK.says("A refused call changes nothing: where nothing more can come");
        List<Done> calls = List.of(new Done("feed", NONE, x -> x.feed(1, 1, 1, 1, 1)),
            new Done("moves(0, 1)", -2, x -> x.moves(0, 1)),
            new Done("counts(0, 1, 1, 0, 0)", -5, x -> x.counts(0, 1, 1, 0, 0)));
        for (Done refused : calls) {
            RunningCount x = full();
            CHECK.due(refused.told, refused.call.on(x), refused.want);
            CHECK.same(refused.told, x, full());
        }
        RunningCount y = Check.busy();
        for (int more = 9; more >= 0; more--) {
            CHECK.due("undo()", y.undo(), more);
        }
        String before = Check.all(y);
        CHECK.due("undo()", y.undo(), NONE);
        CHECK.due("all stays", before.equals(Check.all(y)), true);
    }
}
