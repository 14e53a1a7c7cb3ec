import java.util.NoSuchElementException;
import java.util.Random;

/** Random runs of calls, each answered by the class and by the model. */
public final class ModelTest {
    private static final int RUNS = 1500;
    private static final int CALLS = 512;
    private static final Check CHECK = new Check("ModelTest");

    private final Random random;
    private final RunningCount x = new RunningCount();
    private final Model model = new Model();
    private final String run;
    private int calls = 0;

    private ModelTest(long seed) {
        random = new Random(seed);
        run = "run " + seed + ", call ";
    }

    public static void main(String[] args) {
        for (int seed = 0; seed < RUNS; seed++) {
            new ModelTest(seed).play();
        }
        CHECK.end();
    }

    private void same(String call, long got, long want) {
        calls++;
        CHECK.due(run + calls + ": " + call, got, want);
    }

    private void play() {
        // some runs have many texts, most have one and then many acts
        boolean texts = random.nextInt(4) == 0;
        tell(texts && random.nextBoolean());
        int span = 10 + random.nextInt(200);
        while (calls < CALLS - 40) {
            if (texts && random.nextInt(8) == 0) {
                tell(true);
            }
            act(span);
            ask(span);
        }
    }

    private int below(int bound) {
        return random.nextInt(bound);
    }

    /** A number from 0 to bound - 1, now and then one beside. */
    private int near(int bound) {
        int kind = below(60);
        if (kind == 0) {
            return -1 - below(3);
        }
        if (kind == 1) {
            return bound + below(3);
        }
        if (kind == 2) {
            return random.nextInt();
        }
        return bound <= 0 ? 0 : below(bound);
    }

    private void tell(boolean faulty) {
        String text = text();
        if (faulty) {
            text = spoiled(text);
        }
        byte[] bytes = Check.bytes(text);
        int length = Math.min(bytes.length, 640);
        for (int i = 0; i < length; i += 20) {
            feed(bytes, i);
        }
        same("end", x.end(length) ? 1 : 0, model.end(length) ? 1 : 0);
        same("text of " + text, x.text(), model.text());
        same("fault", x.fault(), model.fault());
        same("now(7)", x.now(7), model.now(7));
    }

    private void feed(byte[] bytes, int i) {
        int a = Check.numberAt(bytes, i);
        int b = Check.numberAt(bytes, i + 4);
        int c = Check.numberAt(bytes, i + 8);
        int d = Check.numberAt(bytes, i + 12);
        int e = Check.numberAt(bytes, i + 16);
        same("feed", x.feed(a, b, c, d, e), model.feed(a, b, c, d, e));
    }

    private String blank() {
        return below(40) == 0 ? "\n " : "";
    }

    private String text() {
        int shelves = 1 + below(below(3) == 0 ? 6 : 2);
        int items = below(20) == 0 ? 0 : 1 + below(below(3) == 0 ? 5 : 2);
        StringBuilder text = new StringBuilder("shelves " + shelves + ";");
        for (int i = 0; i < items; i++) {
            text.append(blank()).append("item ").append(below(below(2) == 0 ? 5 : 100)).append(' ')
                    .append(below(below(2) == 0 ? 20 : 100)).append(blank()).append(';');
        }
        for (int shelf = 0; shelf < shelves; shelf++) {
            for (int item = 0; item < items; item++) {
                if (below(3) > 0) {
                    text.append("stock ").append(shelf).append(' ').append(item).append(' ')
                            .append(below(below(3) == 0 ? 1000 : 120)).append(blank()).append(';');
                }
            }
        }
        int moves = items == 0 ? 0 : below(17);
        for (int i = 0; i < moves && text.length() < 560; i++) {
            text.append("move ").append(below(items)).append(' ').append(1 + below(below(2) == 0 ? 99 : 9));
            appendLeg(text, " from ", shelves);
            appendLeg(text, " to ", shelves);
            text.append(';').append(blank());
        }
        return text.toString();
    }

    private void appendLeg(StringBuilder text, String word, int shelves) {
        if (below(4) > 0) {
            int early = below(200);
            text.append(word).append(below(shelves)).append(' ').append(early).append(' ')
                    .append(early + below(60)).append(blank());
        }
    }

    private String spoiled(String text) {
        String[] parts = {";", " ", "1", "99", "999", "1000", "100", "7", "item", "stock", "move", "from", "to",
            "shelves", "x", "A", "\t", "\n", "item 1 1;", "stock 0 0 5;", "move 0 1;", " 0", "item 2 2;item 3 3;",
            Character.toString((char) 233), Character.toString((char) 0)};
        StringBuilder spoiled = new StringBuilder(text);
        int times = below(3);
        for (int i = 0; i < times; i++) {
            int at = below(spoiled.length() + 1);
            int kind = below(4);
            if (kind == 0) {
                spoiled.insert(at, parts[below(parts.length)]);
            } else if (kind == 1 && at < spoiled.length()) {
                spoiled.deleteCharAt(at);
            } else if (kind == 2 && at < spoiled.length()) {
                spoiled.setCharAt(at, parts[below(parts.length)].charAt(0));
            } else {
                int line = spoiled.indexOf(";", at) + 1;
                spoiled.insert(line, parts[below(parts.length)]);
            }
        }
        if (below(4) == 0) {
            int many = 595 + below(20) - spoiled.length();
            int at = spoiled.lastIndexOf("move");
            if (many > 0) {
                spoiled.insert(Math.max(at, 0), Check.blanks(many));
            }
        }
        if (below(6) == 0) {
            spoiled.setLength(below(spoiled.length() + 1));
        }
        return spoiled.toString();
    }

    private void act(int span) {
        int shelf = near(model.now(0));
        int item = near(model.now(1));
        int count = near(model.now(3));
        switch (below(12)) {
            case 0 -> {
                int sum = below(10) == 0 ? near(100) : 1 + below(20);
                same("moves", x.moves(item, sum), model.moves(item, sum));
            }
            case 1, 2 -> actLeg(span);
            case 3 -> {
                int move = near(model.now(2));
                int leg = near(2);
                int early = narrower(move, 11 + 10 * leg, 1);
                int late = narrower(move, 12 + 10 * leg, -1);
                same("narrow", x.narrow(move, leg, early, late), model.narrow(move, leg, early, late));
            }
            case 4, 5, 6, 7, 8 -> actCount(shelf, item, span);
            case 9 -> same("post", x.post(shelf, item), model.post(shelf, item));
            case 10 -> {
                if (below(3) == 0) {
                    same("drop", x.drop(count) ? 1 : 0, model.drop(count) ? 1 : 0);
                }
            }
            default -> {
                int times = below(4) == 0 ? below(12) : below(2);
                for (int i = 0; i < times; i++) {
                    same("undo", x.undo(), model.undo());
                }
            }
        }
    }

    private void actLeg(int span) {
        int move = below(2) == 0 ? model.now(2) - 1 : near(model.now(2));
        int leg = near(2);
        int shelf = near(model.now(0));
        int early = near(span);
        int late = below(10) == 0 ? near(1000) : early + below(60);
        same("leg", x.leg(move, leg, shelf, early, late) ? 1 : 0, model.leg(move, leg, shelf, early, late) ? 1 : 0);
    }

    private int narrower(int move, int what, int way) {
        try {
            return model.move(move, what) + way * (below(4) - (below(6) == 0 ? 1 : 0));
        } catch (NoSuchElementException e) {
            return near(1000);
        }
    }

    private void actCount(int shelf, int item, int span) {
        int t = below(20) == 0 ? near(1000) : below(span);
        int sure = model.book(shelf, item, t, 0);
        int sum = below(5) == 0 ? near(10000) : sure + below(40) - 20;
        if (below(3) == 0) {
            sum = sure + below(4) - 2;
        }
        int who = near(4);
        same("counts(" + shelf + ", " + item + ", " + t + ", " + sum + ", " + who + ")",
                x.counts(shelf, item, t, sum, who), model.counts(shelf, item, t, sum, who));
    }

    private void ask(int span) {
        int shelf = near(model.now(0));
        int item = near(model.now(1));
        int t = below(10) == 0 ? near(1000) : below(span + 60);
        int count = near(model.now(3));
        int what = near(8);
        switch (below(16)) {
            case 0 -> same("now", x.now(what), model.now(what));
            case 1 -> same("item", x.item(item, what), model.item(item, what));
            case 2, 3, 4, 5, 6 -> askState(item, t, count);
            default -> askBook(shelf, item, t, count, what);
        }
    }

    private void askState(int item, int t, int count) {
        switch (below(5)) {
            case 0 -> {
                int move = near(model.now(2));
                int[] whats = {0, 1, 2, 9, 10, 11, 12, 13, 19, 20, 21, 22, 23};
                int what = whats[below(whats.length)];
                same("move", Check.move(x, move, what), moveOfModel(move, what));
            }
            case 1 -> {
                int what = near(7);
                same("count", Check.count(x, count, what), countOfModel(count, what));
            }
            case 2 -> {
                int what = near(2);
                same("transit", x.transit(item, t, what), model.transit(item, t, what));
            }
            case 3 -> {
                int k = near(3) - 1;
                same("explained(" + count + ", " + k + ")", x.explained(count, k), model.explained(count, k));
            }
            default -> {
                int k = near(model.now(5));
                int what = near(4);
                same("adjusted", x.adjusted(k, what), model.adjusted(k, what));
            }
        }
    }

    private void askBook(int shelf, int item, int t, int count, int what) {
        switch (below(7)) {
            case 0, 1 -> same("book", x.book(shelf, item, t, what % 5), model.book(shelf, item, t, what % 5));
            case 2 -> same("below", x.below(shelf, item), model.below(shelf, item));
            case 3 -> same("difference", x.difference(count), model.difference(count));
            case 4 -> same("share", x.share(count), model.share(count));
            case 5 -> same("chosen", x.chosen(shelf, item), model.chosen(shelf, item));
            default -> same("due", x.due(), model.due());
        }
    }

    private long moveOfModel(int move, int what) {
        try {
            return model.move(move, what);
        } catch (NoSuchElementException e) {
            return Check.THROWS;
        }
    }

    private long countOfModel(int count, int what) {
        try {
            return model.count(count, what);
        } catch (NoSuchElementException e) {
            return Check.THROWS;
        }
    }
}
