/** "An object is used for at most 512 calls after it has been made": the last is answered as the first. */
public final class CallsTest {
    private static final Check CHECK = new Check("CallsTest");
    private static final int CALLS = 512;
    private static final int NONE = -1;

    private final String scene;
    private final RunningCount x = new RunningCount();
    private int calls = 0;

    private CallsTest(String scene) {
        this.scene = scene;
    }

    public static void main(String[] args) {
        CHECK.says("An object is used for at most 512 calls after it has been made");
        new CallsTest("feed").feeds();
        new CallsTest("feed, end").feedsAndEnds();
        new CallsTest("text of an empty tape").emptyTexts();
        new CallsTest("good and faulty texts").texts();
        new CallsTest("questions").questions();
        new CallsTest("questions about what is not there").strangeQuestions();
        new CallsTest("moves").moves();
        new CallsTest("moves, leg, undo").legs();
        new CallsTest("narrow").narrows();
        new CallsTest("counts, drop").drops();
        new CallsTest("counts, post, undo").posts();
        new CallsTest("all acts, a new text").everything();
        CHECK.end();
    }

    private void due(String call, long got, long want) {
        calls++;
        CHECK.due(scene + ", call " + calls + ": " + call, got, want);
    }

    private void due(String call, boolean got, boolean want) {
        due(call, got ? 1 : 0, want ? 1 : 0);
    }

    private boolean hasLeft(int many) {
        return calls + many <= CALLS;
    }

    /** Spends the calls that are left, so that the scene has all of them. */
    private void spend(int shelves) {
        while (hasLeft(1)) {
            due("now(0)", x.now(0), shelves);
        }
        CHECK.due(scene + ": calls", calls, CALLS);
    }

    private void tell(String text, int lines) {
        byte[] bytes = Check.bytes(text);
        for (int i = 0; i < bytes.length; i += 20) {
            due("feed", x.feed(Check.numberAt(bytes, i), Check.numberAt(bytes, i + 4), Check.numberAt(bytes, i + 8),
                    Check.numberAt(bytes, i + 12), Check.numberAt(bytes, i + 16)), i + 20);
        }
        due("end", x.end(bytes.length), true);
        due("text", x.text(), lines);
    }

    private void feeds() {
        for (int i = 1; i < CALLS; i++) {
            due("feed", x.feed(i, i, i, i, i), i <= 32 ? 20 * i : NONE);
        }
        due("now(7)", x.now(7), 640);
        spend(1);
    }

    private void feedsAndEnds() {
        int has = 0;
        while (hasLeft(4)) {
            due("feed", x.feed(0, 0, 0, 0, 0), has + 20);
            due("end", x.end(has + 21), false);
            due("end", x.end(has + 1), true);
            has++;
        }
        due("now(7)", x.now(7), has);
        spend(1);
    }

    private void emptyTexts() {
        while (hasLeft(2)) {
            due("text", x.text(), -1);
            due("fault", x.fault(), 1);
        }
        spend(1);
    }

    private void texts() {
        int shelves = 1;
        while (hasLeft(9)) {
            shelves = shelves % 6 + 1;
            tell("shelves " + shelves + ";", 1);
            due("fault", x.fault(), 0);
            tell("shelves 0;", -9);
            due("fault", x.fault(), 2);
            due("now(0)", x.now(0), shelves);
        }
        spend(shelves);
    }

    private void questions() {
        tell("shelves 2;item 2 10;stock 0 0 50;move 0 10 from 0 100 200 to 1 150 250;", 4);
        due("counts", x.counts(0, 0, 150, 30, 0), 0);
        due("counts", x.counts(1, 0, 150, 10, 0), 1);
        due("post", x.post(1, 0), 0);
        while (hasLeft(19)) {
            due("fault", x.fault(), 0);
            due("now", x.now(6), 3);
            due("item", x.item(0, 1), 10);
            due("move", x.move(0, 22), 250);
            due("book", x.book(0, 0, 150, 1), 40);
            due("transit", x.transit(0, 200, 1), 10);
            due("below", x.below(0, 0), NONE);
            due("count", x.count(0, 6), 5);
            due("difference", x.difference(0), -10);
            due("share", x.share(0), -200);
            due("chosen", x.chosen(0, 0), -2);
            due("due", x.due(), 1);
            due("explained", x.explained(1, 0), 1);
            due("explained", x.explained(0, NONE), 0);
            due("adjusted", x.adjusted(0, 1), 0);
            due("adjusted", x.adjusted(0, 2), 150);
            due("post", x.post(0, 0), Check.NO_SUM);
            due("drop", x.drop(1), false);
            due("leg", x.leg(0, 1, 1, 150, 250), false);
        }
        spend(2);
    }

    private void strangeQuestions() {
        while (hasLeft(16)) {
            due("now", x.now(8), NONE);
            due("item", x.item(0, 0), NONE);
            due("move", Check.move(x, 0, 0), Check.THROWS);
            due("book", x.book(0, 0, 0, 0), Check.NO_SUM);
            due("transit", x.transit(0, 0, 0), NONE);
            due("below", x.below(0, 0), NONE);
            due("count", Check.count(x, 0, 0), Check.THROWS);
            due("difference", x.difference(0), Check.NO_SUM);
            due("share", x.share(0), Check.NO_SUM);
            due("chosen", x.chosen(0, 0), NONE);
            due("explained", x.explained(0, NONE), NONE);
            due("adjusted", x.adjusted(0, 0), Check.NO_SUM);
            due("moves", x.moves(0, 1), NONE);
            due("narrow", x.narrow(0, 0, 0, 0), NONE);
            due("counts", x.counts(0, 0, 0, 0, 0), NONE);
            due("undo", x.undo(), NONE);
        }
        spend(1);
    }

    private void moves() {
        tell("shelves 1;item 0 0;", 2);
        for (int i = 0; i < 470; i++) {
            due("moves", x.moves(0, 1 + i % 99), i < 40 ? i : -2);
        }
        due("move", x.move(39, 1), 40);
        for (int i = 9; i >= -1; i--) {
            due("undo", x.undo(), i);
        }
        for (int i = 0; i < 15; i++) {
            due("moves", x.moves(0, 99), i < 10 ? 30 + i : -2);
        }
        spend(1);
    }

    private void legs() {
        tell("shelves 1;item 0 0;", 2);
        while (hasLeft(8)) {
            due("moves", x.moves(0, 9), 0);
            due("leg", x.leg(0, 0, 0, 3, 5), true);
            due("leg", x.leg(0, 1, 0, 7, 7), true);
            due("book", x.book(0, 0, 5, 0), -9);
            due("undo", x.undo(), 2);
            due("undo", x.undo(), 1);
            due("undo", x.undo(), 0);
            due("book", x.book(0, 0, 5, 0), 0);
        }
        spend(1);
    }

    private void narrows() {
        tell("shelves 1;item 0 0;move 0 1 from 0 0 999;", 3);
        for (int i = 1; i <= 490; i++) {
            due("narrow", x.narrow(0, 0, i, 999 - i), 2);
        }
        for (int i = 9; i >= -1; i--) {
            due("undo", x.undo(), i);
        }
        due("move", x.move(0, 11), 480);
        due("move", x.move(0, 12), 519);
        spend(1);
    }

    private void drops() {
        tell("shelves 1;item 0 0;", 2);
        due("counts", x.counts(0, 0, 1, 5, 0), 0);
        for (int i = 0; hasLeft(6); i++) {
            due("counts", x.counts(0, 0, 2 + i, 6, 1), 1);
            due("now", x.now(3), 2);
            due("drop", x.drop(0), true);
            due("count", x.count(0, 2), 2 + i);
            due("counts", x.counts(0, 0, 1, 5, 0), 1);
            due("drop", x.drop(0), true);
        }
        due("now", x.now(3), 1);
        spend(1);
    }

    private void posts() {
        tell("shelves 1;item 9 0;", 2);
        while (hasLeft(6)) {
            due("counts", x.counts(0, 0, 5, 9, 0), 0);
            due("post", x.post(0, 0), 9);
            due("book", x.book(0, 0, 5, 0), 9);
            due("undo", x.undo(), 1);
            due("undo", x.undo(), 0);
            due("book", x.book(0, 0, 5, 0), 0);
        }
        spend(1);
    }

    private void everything() {
        while (hasLeft(18)) {
            tell("shelves 3;item 5 0;stock 2 0 4;", 3);
            due("moves", x.moves(0, 8), 0);
            due("leg", x.leg(0, 1, 2, 10, 20), true);
            due("narrow", x.narrow(0, 1, 12, 15), 7);
            due("counts", x.counts(2, 0, 15, 13, 2), 0);
            due("counts", x.counts(2, 0, 16, 12, 3), 1);
            due("post", x.post(2, 0), 1);
            due("drop", x.drop(1), true);
            due("now", x.now(6), 7);
            due("undo", x.undo(), 6);
            due("now", x.now(4), 1);
            due("book", x.book(2, 0, 15, 2), 13);
        }
        spend(3);
    }
}
