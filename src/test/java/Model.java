import java.util.ArrayList;
import java.util.Comparator;
import java.util.List;
import java.util.NoSuchElementException;
import java.util.regex.Matcher;
import java.util.regex.Pattern;

/** A slow second reading of the document: whole states are kept to undo, every instant is looked at. */
final class Model {
    private static final int NONE = -1;
    private static final int NO_SUM = NONE - 99999999;

    record Leg(int shelf, int early, int late) {
        boolean over(int t) {
            return late <= t;
        }

        boolean toCome(int t) {
            return early > t;
        }

        boolean doubtful(int t) {
            return early <= t && t < late;
        }
    }

    record Move(int item, int sum, Leg from, Leg to) {
    }

    record Count(int shelf, int item, int t, int sum, int who, boolean posted) {
    }

    record Adjustment(int shelf, int item, int t, int much) {
    }

    record State(List<Move> moves, List<Count> counts, List<Adjustment> adjustments) {
        State copy() {
            return new State(new ArrayList<>(moves), new ArrayList<>(counts), new ArrayList<>(adjustments));
        }
    }

    /** Where and of which kind a fault is. */
    private static final class Fault extends Exception {
        private static final long serialVersionUID = 1L;
        final int place;
        final int kind;

        Fault(int place, int kind) {
            this.place = place;
            this.kind = kind;
        }
    }

    record Token(String text, int place) {
        boolean number() {
            return text.matches("[0-9]{1,3}");
        }
    }

    private String tape = "";
    private int faultKind = 0;
    private int shelves = 1;
    private List<int[]> items = new ArrayList<>();
    private List<int[]> stock = new ArrayList<>();
    private State state = new State(new ArrayList<>(), new ArrayList<>(), new ArrayList<>());
    private List<State> past = new ArrayList<>();

    int feed(int a, int b, int c, int d, int e) {
        if (tape.length() + 20 > 640) {
            return NONE;
        }
        for (int number : new int[] {a, b, c, d, e}) {
            for (int i = 3; i >= 0; i--) {
                tape += (char) (number >>> 8 * i & 255);
            }
        }
        return tape.length();
    }

    boolean end(int n) {
        if (n < 0 || n > tape.length()) {
            return false;
        }
        tape = tape.substring(0, n);
        return true;
    }

    int text() {
        String read = tape;
        tape = "";
        Model told = new Model();
        try {
            int lines = told.read(read);
            shelves = told.shelves;
            items = told.items;
            stock = told.stock;
            state = told.state;
            past = new ArrayList<>();
            faultKind = 0;
            return lines;
        } catch (Fault fault) {
            faultKind = fault.kind;
            return -1 - fault.place;
        }
    }

    private List<Token> tokens = new ArrayList<>();
    private int at = 0;

    private Token word(String... allowed) throws Fault {
        Token token = tokens.get(at);
        for (String word : allowed) {
            if (token.text.equals(word)) {
                at++;
                return token;
            }
        }
        throw new Fault(token.place, 1);
    }

    private int number(int low, int high) throws Fault {
        Token token = tokens.get(at);
        if (!token.number()) {
            throw new Fault(token.place, 1);
        }
        int number = Integer.parseInt(token.text);
        if (number < low || number > high) {
            throw new Fault(token.place, 2);
        }
        at++;
        return number;
    }

    private int read(String read) throws Fault {
        Matcher runs = Pattern.compile("[a-z0-9]+|[^ \n]").matcher(read);
        while (runs.find() && runs.start() < 600) {
            tokens.add(new Token(runs.group(), runs.start()));
        }
        tokens.add(new Token("END", Math.min(600, read.length())));
        word("shelves");
        shelves = number(1, 6);
        word(";");
        int lines = 1;
        String[][] may = {{"item", "stock", "move", "END"}, {"stock", "move", "END"}, {"move", "END"}};
        int stage = 0;
        while (true) {
            Token token = word(may[stage]);
            switch (token.text) {
                case "item" -> readItem(token);
                case "stock" -> {
                    stage = 1;
                    readStock();
                }
                case "move" -> {
                    stage = 2;
                    readMove(token);
                }
                default -> {
                    if (read.length() > 600) {
                        throw new Fault(600, 1);
                    }
                    return lines;
                }
            }
            lines++;
        }
    }

    private void readItem(Token word) throws Fault {
        if (items.size() == 5) {
            throw new Fault(word.place, 3);
        }
        int units = number(0, 99);
        items.add(new int[] {units, number(0, 99)});
        word(";");
    }

    private void readStock() throws Fault {
        int shelf = number(0, shelves - 1);
        int place = tokens.get(at).place;
        int item = number(0, items.size() - 1);
        for (int[] told : stock) {
            if (told[0] == shelf && told[1] == item) {
                throw new Fault(place, 2);
            }
        }
        stock.add(new int[] {shelf, item, number(0, 999)});
        word(";");
    }

    private void readMove(Token word) throws Fault {
        if (state.moves.size() == 16) {
            throw new Fault(word.place, 3);
        }
        int item = number(0, items.size() - 1);
        int sum = number(1, 99);
        Leg from = null;
        Leg to = null;
        Token token = word("from", "to", ";");
        if (token.text.equals("from")) {
            from = readLeg();
            token = word("to", ";");
        }
        if (token.text.equals("to")) {
            to = readLeg();
            word(";");
        }
        state.moves.add(new Move(item, sum, from, to));
    }

    private Leg readLeg() throws Fault {
        int shelf = number(0, shelves - 1);
        int early = number(0, 999);
        return new Leg(shelf, early, number(early, 999));
    }

    int fault() {
        return faultKind;
    }

    int now(int what) {
        return switch (what) {
            case 0 -> shelves;
            case 1 -> items.size();
            case 2 -> state.moves.size();
            case 3 -> state.counts.size();
            case 4 -> (int) state.counts.stream().filter(c -> !c.posted).count();
            case 5 -> state.adjustments.size();
            case 6 -> past.size();
            case 7 -> tape.length();
            default -> NONE;
        };
    }

    private boolean hasItem(int item) {
        return 0 <= item && item < items.size();
    }

    private boolean hasShelf(int shelf) {
        return 0 <= shelf && shelf < shelves;
    }

    private static boolean instant(int t) {
        return 0 <= t && t <= 999;
    }

    int item(int item, int what) {
        return hasItem(item) && (what == 0 || what == 1) ? items.get(item)[what] : NONE;
    }

    int move(int move, int what) {
        if (move < 0 || move >= state.moves.size()) {
            throw new NoSuchElementException();
        }
        Move m = state.moves.get(move);
        if (what == 0 || what == 1) {
            return what == 0 ? m.item : m.sum;
        }
        if (what < 10 || what > 22 || what % 10 > 2) {
            throw new NoSuchElementException();
        }
        Leg leg = what / 10 == 1 ? m.from : m.to;
        if (leg == null) {
            return NONE;
        }
        return what % 10 == 0 ? leg.shelf : what % 10 == 1 ? leg.early : leg.late;
    }

    private int sure(int shelf, int item, int t) {
        int sum = 0;
        for (int[] told : stock) {
            sum += told[0] == shelf && told[1] == item ? told[2] : 0;
        }
        for (Move m : state.moves) {
            if (m.item == item) {
                sum -= m.from != null && m.from.shelf == shelf && m.from.over(t) ? m.sum : 0;
                sum += m.to != null && m.to.shelf == shelf && m.to.over(t) ? m.sum : 0;
            }
        }
        for (Adjustment a : state.adjustments) {
            sum += a.shelf == shelf && a.item == item && a.t <= t ? a.much : 0;
        }
        return sum;
    }

    /** What the doubtful legs would change, one by one. */
    private List<Integer> doubts(int shelf, int item, int t) {
        List<Integer> changes = new ArrayList<>();
        for (Move m : state.moves) {
            if (m.item == item && m.from != null && m.from.shelf == shelf && m.from.doubtful(t)) {
                changes.add(-m.sum);
            }
            if (m.item == item && m.to != null && m.to.shelf == shelf && m.to.doubtful(t)) {
                changes.add(m.sum);
            }
        }
        return changes;
    }

    private int least(int shelf, int item, int t) {
        return sure(shelf, item, t) + doubts(shelf, item, t).stream().mapToInt(c -> Math.min(c, 0)).sum();
    }

    private int most(int shelf, int item, int t) {
        return sure(shelf, item, t) + doubts(shelf, item, t).stream().mapToInt(c -> Math.max(c, 0)).sum();
    }

    int book(int shelf, int item, int t, int what) {
        if (!hasShelf(shelf) || !hasItem(item) || !instant(t)) {
            return NO_SUM;
        }
        return switch (what) {
            case 0 -> sure(shelf, item, t);
            case 1 -> least(shelf, item, t);
            case 2 -> most(shelf, item, t);
            case 3 -> doubts(shelf, item, t).size();
            default -> NO_SUM;
        };
    }

    int transit(int item, int t, int what) {
        if (!hasItem(item) || !instant(t) || (what != 0 && what != 1)) {
            return NONE;
        }
        int sum = 0;
        for (Move m : state.moves) {
            if (m.item == item && m.from != null && m.to != null && m.from.over(t)) {
                sum += (what == 0 ? m.to.toCome(t) : m.to.doubtful(t)) ? m.sum : 0;
            }
        }
        return sum;
    }

    int below(int shelf, int item) {
        for (int t = 0; t < 1000 && hasShelf(shelf) && hasItem(item); t++) {
            if (most(shelf, item, t) < 0) {
                return t;
            }
        }
        return NONE;
    }

    private boolean hasCount(int count) {
        return 0 <= count && count < state.counts.size();
    }

    private int allowed(Count c) {
        int part = Math.max(0, sure(c.shelf, c.item, c.t)) * items.get(c.item)[1] / 100;
        return Math.max(items.get(c.item)[0], part);
    }

    private int difference(Count c) {
        int most = most(c.shelf, c.item, c.t);
        int least = least(c.shelf, c.item, c.t);
        return c.sum > most ? c.sum - most : c.sum < least ? c.sum - least : 0;
    }

    int count(int count, int what) {
        if (!hasCount(count) || what < 0 || what > 6) {
            throw new NoSuchElementException();
        }
        Count c = state.counts.get(count);
        int[] all = {c.shelf, c.item, c.t, c.sum, c.who, c.posted ? 1 : 0, allowed(c)};
        return all[what];
    }

    int difference(int count) {
        return hasCount(count) ? difference(state.counts.get(count)) : NO_SUM;
    }

    int share(int count) {
        if (!hasCount(count)) {
            return NO_SUM;
        }
        Count c = state.counts.get(count);
        int sure = sure(c.shelf, c.item, c.t);
        return sure == 0 ? 0 : (int) (1000f * difference(c) / sure);
    }

    private List<Count> open(int shelf, int item) {
        return state.counts.stream().filter(c -> !c.posted && c.shelf == shelf && c.item == item)
                .sorted(Comparator.comparingInt(Count::t)).toList();
    }

    int chosen(int shelf, int item) {
        List<Count> open = open(shelf, item);
        if (open.isEmpty()) {
            return NONE;
        }
        Count first = open.get(0);
        if (Math.abs(difference(first)) <= allowed(first)) {
            return state.counts.indexOf(first);
        }
        if (open.size() == 1) {
            return -2;
        }
        if (open.size() == 2) {
            Count second = open.get(1);
            boolean near = Math.abs(difference(first) - difference(second)) <= allowed(second);
            return near ? state.counts.indexOf(second) : -2;
        }
        List<Count> three = open.subList(open.size() - 3, open.size());
        List<Integer> differences = three.stream().map(this::difference).toList();
        int middle = differences.stream().sorted().toList().get(1);
        return state.counts.indexOf(three.get(differences.indexOf(middle)));
    }

    int due() {
        int due = 0;
        for (int shelf = 0; shelf < shelves; shelf++) {
            for (int item = 0; item < items.size(); item++) {
                due += chosen(shelf, item) == -2 ? 1 : 0;
            }
        }
        return due;
    }

    int explained(int count, int k) {
        if (!hasCount(count)) {
            return NONE;
        }
        Count c = state.counts.get(count);
        List<Integer> doubts = doubts(c.shelf, c.item, c.t);
        if (doubts.size() > 10) {
            return -2;
        }
        List<Integer> sets = new ArrayList<>();
        for (int set = 0; set < Math.pow(2, doubts.size()); set++) {
            int sum = sure(c.shelf, c.item, c.t);
            int rest = set;
            for (int change : doubts) {
                sum += rest % 2 * change;
                rest /= 2;
            }
            if (sum == c.sum) {
                sets.add(set);
            }
        }
        return k == NONE ? sets.size() : 0 <= k && k < sets.size() ? sets.get(k) : NONE;
    }

    int adjusted(int k, int what) {
        if (k < 0 || k >= state.adjustments.size() || what < 0 || what > 3) {
            return NO_SUM;
        }
        Adjustment a = state.adjustments.get(k);
        return new int[] {a.shelf, a.item, a.t, a.much}[what];
    }

    private void remember() {
        past.add(state.copy());
        if (past.size() > 10) {
            past.remove(0);
        }
    }

    int moves(int item, int sum) {
        if (!hasItem(item) || sum < 1 || sum > 99) {
            return NONE;
        }
        if (state.moves.size() == 40) {
            return -2;
        }
        remember();
        state.moves.add(new Move(item, sum, null, null));
        return state.moves.size() - 1;
    }

    private Leg legOf(int move, int leg) {
        return leg == 0 ? state.moves.get(move).from : state.moves.get(move).to;
    }

    private void setLeg(int move, int leg, Leg as) {
        Move m = state.moves.get(move);
        state.moves.set(move, new Move(m.item, m.sum, leg == 0 ? as : m.from, leg == 1 ? as : m.to));
    }

    private boolean hasMove(int move, int leg) {
        return 0 <= move && move < state.moves.size() && (leg == 0 || leg == 1);
    }

    boolean leg(int move, int leg, int shelf, int early, int late) {
        if (!hasMove(move, leg) || !hasShelf(shelf) || legOf(move, leg) != null
                || !instant(early) || !instant(late) || late < early) {
            return false;
        }
        remember();
        setLeg(move, leg, new Leg(shelf, early, late));
        return true;
    }

    int narrow(int move, int leg, int early, int late) {
        if (!hasMove(move, leg) || legOf(move, leg) == null) {
            return NONE;
        }
        Leg was = legOf(move, leg);
        if (early < was.early || early > was.late || late < was.early || late > was.late || early > late) {
            return NONE;
        }
        remember();
        setLeg(move, leg, new Leg(was.shelf, early, late));
        return (was.late - was.early) - (late - early);
    }

    int counts(int shelf, int item, int t, int sum, int who) {
        if (!hasShelf(shelf) || !hasItem(item) || !instant(t) || sum < 0 || sum > 9999 || who < 0 || who > 3) {
            return NONE;
        }
        List<Count> there = state.counts.stream().filter(c -> c.shelf == shelf && c.item == item).toList();
        if (there.stream().anyMatch(c -> c.t == t)) {
            return -2;
        }
        List<Count> ahead = open(shelf, item).stream().filter(c -> c.t < t).toList();
        if (!ahead.isEmpty() && ahead.get(ahead.size() - 1).who == who) {
            return -3;
        }
        if (there.stream().anyMatch(c -> c.posted && c.t > t)) {
            return -4;
        }
        if (state.counts.size() == 40) {
            return -5;
        }
        remember();
        state.counts.add(new Count(shelf, item, t, sum, who, false));
        return state.counts.size() - 1;
    }

    int post(int shelf, int item) {
        int chosen = chosen(shelf, item);
        if (chosen < 0) {
            return NO_SUM;
        }
        remember();
        Count it = state.counts.get(chosen);
        int much = difference(it);
        state.adjustments.add(new Adjustment(shelf, item, it.t, much));
        state.counts.replaceAll(c -> c.shelf == shelf && c.item == item && c.t <= it.t
                ? new Count(c.shelf, c.item, c.t, c.sum, c.who, true) : c);
        return much;
    }

    boolean drop(int count) {
        if (!hasCount(count) || state.counts.get(count).posted) {
            return false;
        }
        remember();
        state.counts.remove(count);
        return true;
    }

    int undo() {
        if (past.isEmpty()) {
            return NONE;
        }
        state = past.remove(past.size() - 1);
        return past.size();
    }
}
